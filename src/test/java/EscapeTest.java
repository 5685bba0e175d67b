/** Promise 9. */
public final class EscapeTest {
    public static void main(String[] args) {
        refusesWithoutASession();
        leavesTheCaret();
        keepsTextsAndHistory();
        Check.finish();
    }

    private static void refusesWithoutASession() {
        SnippetSession x = new SnippetSession(8, 2);
        Check.refused("fresh", x, x::escape, SnippetSession.STATE);
        Check.type(x, "a");
        Check.refused("merging", x, x::escape, SnippetSession.STATE);
        SnippetSession y = Check.expanded("$1");
        y.escape();
        Check.refused("after the session", y, y::escape, SnippetSession.STATE);
    }

    private static void leavesTheCaret() {
        SnippetSession x = Check.expanded(64, 16, "ab", 1, "${1:xyz}-$0");
        Check.is("escape", x.escape(), SnippetSession.OK);
        Check.same("the caret stays, the selection goes", Check.selection(x), "4..4 -1 0");
        Check.same("text", Check.text(x), "axyz-b");
        Check.is("no stop", x.stopState(1), SnippetSession.ABSENT);
        Check.type(x, "!");
        Check.same("typing goes on there", Check.text(x), "axyz!-b");
    }

    private static void keepsTextsAndHistory() {
        SnippetSession x = Check.expanded("${1:a}$1");
        Check.type(x, "q");
        Check.is("escape", x.escape(), SnippetSession.OK);
        Check.is("depth", Check.undoDepth(x), 2);
        Check.is("merge", Check.merge(x), 0);
        Check.same("text", Check.text(x), "qq");
        Check.type(x, "r");
        Check.is("a new group", Check.undoDepth(x), 3);
        Check.same("the mirror no longer follows", Check.text(x), "qrq");
        x.undo();
        x.undo();
        Check.same("the session is back", Check.selection(x), "0..1 1 1");
        Check.type(x, "s");
        Check.same("with its structure", Check.text(x), "ss");
    }
}
