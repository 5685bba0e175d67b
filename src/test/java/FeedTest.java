/** Promise 2. */
public final class FeedTest {
    public static void main(String[] args) {
        takesEveryCode();
        refusesOtherCodes();
        stopsAtItsLimit();
        changesNothingElse();
        Check.finish();
    }

    private static void takesEveryCode() {
        for (int c = 32; c <= 126; c++) {
            SnippetSession x = new SnippetSession(8, 1);
            Check.is("feed(" + c + ")", x.feed(c), SnippetSession.OK);
            Check.is("the code fed", x.bodyCharAt(0), c);
            Check.is("the body's length", x.info(SnippetSession.INFO_BODY_LENGTH), 1);
        }
        SnippetSession x = new SnippetSession(8, 1);
        Check.setBody(x, "order kept");
        Check.same("the body", Check.body(x), "order kept");
    }

    private static void refusesOtherCodes() {
        SnippetSession x = Check.expanded("${1:a}");
        for (int c : new int[] {Integer.MIN_VALUE, -1, 0, 10, 31, 127, 128, 256 + 65, Integer.MAX_VALUE}) {
            Check.refused("feed(" + c + ")", x, () -> x.feed(c), SnippetSession.BAD_CHAR);
        }
    }

    private static void stopsAtItsLimit() {
        SnippetSession x = new SnippetSession(8, 1);
        Check.setBody(x, "x".repeat(63));
        Check.is("the last place", x.feed('y'), SnippetSession.OK);
        Check.is("the last code", x.bodyCharAt(63), 'y');
        Check.refused("feed when full", x, () -> x.feed('z'), SnippetSession.FULL);
        Check.refused("a bad code when full", x, () -> x.feed(31), SnippetSession.BAD_CHAR);
        x.clearSnippet();
        Check.is("feed after clearing", x.feed('z'), SnippetSession.OK);
    }

    private static void changesNothingElse() {
        SnippetSession x = Check.expanded(64, 16, "ab", 1, "${1:x$2}$1");
        Check.type(x, "q");
        String before = Check.whole(x);
        Check.is("feed in a session", x.feed('$'), SnippetSession.OK);
        Check.same("all but the body", Check.whole(x),
                before.replace("${1:x$2}$1", "${1:x$2}$1$").replace("info 4 2 2 1 0 2 10 1", "info 4 2 2 1 0 2 11 1"));
        Check.type(x, "r");
        Check.is("merge was kept", Check.undoDepth(x), 2);
        Check.same("the structure was kept", Check.text(x), "aqrqrb");
    }
}
