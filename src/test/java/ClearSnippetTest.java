/** Promise 3. */
public final class ClearSnippetTest {
    public static void main(String[] args) {
        emptiesTheBody();
        changesNothingElse();
        Check.finish();
    }

    private static void emptiesTheBody() {
        SnippetSession x = new SnippetSession(20, 4);
        x.clearSnippet();
        Check.is("an empty body stays empty", x.info(SnippetSession.INFO_BODY_LENGTH), 0);
        Check.setBody(x, "abc");
        x.clearSnippet();
        Check.is("length", x.info(SnippetSession.INFO_BODY_LENGTH), 0);
        Check.is("first code", x.bodyCharAt(0), -1);
        Check.setBody(x, "d");
        Check.same("the new body alone", Check.body(x), "d");
    }

    private static void changesNothingElse() {
        SnippetSession x = Check.expanded(64, 16, "ab", 1, "${1:x$2}$1");
        Check.type(x, "q");
        String before = Check.whole(x);
        x.clearSnippet();
        Check.same("all but the body", Check.whole(x),
                before.replace("${1:x$2}$1", "").replace("info 4 2 2 1 0 2 10 1", "info 4 2 2 1 0 2 0 1"));
        Check.type(x, "r");
        Check.is("merge was kept", Check.undoDepth(x), 2);
        Check.same("the structure was kept", Check.text(x), "aqrqrb");
        Check.is("undo", x.undo(), SnippetSession.OK);
        Check.same("the history was kept", Check.text(x), "axxb");
    }
}
