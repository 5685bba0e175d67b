/** Promise 10. */
public final class SetCaretTest {
    public static void main(String[] args) {
        movesTheCaret();
        refusesOtherPositions();
        refusesInASession();
        startsNoGroup();
        Check.finish();
    }

    private static void movesTheCaret() {
        SnippetSession x = new SnippetSession(20, 4);
        Check.is("an empty buffer", x.setCaret(0), SnippetSession.OK);
        Check.type(x, "abc");
        for (int pos = 0; pos <= 3; pos++) {
            Check.is("setCaret(" + pos + ")", x.setCaret(pos), SnippetSession.OK);
            Check.same("selection", Check.selection(x), pos + ".." + pos + " -1 0");
        }
        Check.same("text", Check.text(x), "abc");
    }

    private static void refusesOtherPositions() {
        SnippetSession x = new SnippetSession(20, 4);
        Check.type(x, "abc");
        for (int pos : new int[] {Integer.MIN_VALUE, -1, 4, 20, Integer.MAX_VALUE}) {
            Check.refused("setCaret(" + pos + ")", x, () -> x.setCaret(pos), SnippetSession.RANGE);
        }
        Check.is("merge stays", Check.merge(x), 1);
    }

    private static void refusesInASession() {
        SnippetSession x = Check.expanded("${1:abc}");
        for (int pos : new int[] {Integer.MIN_VALUE, -1, 0, 2, 3, 4, Integer.MAX_VALUE}) {
            Check.refused("setCaret(" + pos + ")", x, () -> x.setCaret(pos), SnippetSession.STATE);
        }
        x.escape();
        Check.is("after the session", x.setCaret(2), SnippetSession.OK);
    }

    private static void startsNoGroup() {
        SnippetSession x = new SnippetSession(20, 4);
        Check.type(x, "abc");
        Check.is("to the same place", x.setCaret(3), SnippetSession.OK);
        Check.is("depth", Check.undoDepth(x), 1);
        Check.is("merge", Check.merge(x), 0);
        Check.type(x, "d");
        Check.is("typing starts a group", Check.undoDepth(x), 2);
    }
}
