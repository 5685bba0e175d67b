/** Promise 10. */
public final class SetCaretTest {
    private static final int[] INTS = {
        Integer.MIN_VALUE, Integer.MIN_VALUE + 1, -65536, -64, -2, -1, 4, 5, 20, 64, 65, 256, 65536 + 2,
        Integer.MAX_VALUE - 1, Integer.MAX_VALUE};

    public static void main(String[] args) {
        refusesInASession();
        refusesOtherPositions();
        takesThePositionsOfTheText();
        stateBeforeRange();
        anyInt();
        startsNoGroup();
        clearsMerge();
        keepsTheBuffer();
        Check.finish();
    }

    private static void refusesInASession() {
        Check.says("a session is active answers STATE");
        SnippetSession x = Check.expanded("${1:abc}");
        for (int pos = 0; pos <= 3; pos++) {
            int to = pos;
            Check.refused("setCaret(" + pos + ")", x, () -> x.setCaret(to), SnippetSession.STATE);
        }
        Check.play(x, "escape");
        Check.is("after the session", x.setCaret(2), SnippetSession.OK);
    }

    private static void refusesOtherPositions() {
        Check.says("pos < 0 or pos > length answers RANGE.");
        SnippetSession x = new SnippetSession(20, 4);
        Check.type(x, "abc");
        for (int pos : INTS) {
            Check.refused("setCaret(" + pos + ")", x, () -> x.setCaret(pos), SnippetSession.RANGE);
        }
        SnippetSession empty = new SnippetSession(20, 4);
        Check.refused("1 in an empty buffer", empty, () -> empty.setCaret(1), SnippetSession.RANGE);
        Check.refused("-1 in an empty buffer", empty, () -> empty.setCaret(-1), SnippetSession.RANGE);
        SnippetSession full = new SnippetSession(64, 4);
        Check.type(full, "a".repeat(64));
        Check.refused("65 in a full buffer", full, () -> full.setCaret(65), SnippetSession.RANGE);
        Check.play(full, "back");
        Check.refused("64 when it is shorter", full, () -> full.setCaret(64), SnippetSession.RANGE);
    }

    private static void takesThePositionsOfTheText() {
        Check.says("Otherwise caret = selStart = pos and the answer is OK.");
        SnippetSession empty = new SnippetSession(20, 4);
        Check.is("0 in an empty buffer", empty.setCaret(0), SnippetSession.OK);
        for (int length : new int[] {1, 3, 64}) {
            SnippetSession x = new SnippetSession(64, 4);
            Check.type(x, "a".repeat(length));
            for (int pos = 0; pos <= length; pos++) {
                Check.is("setCaret(" + pos + ")", x.setCaret(pos), SnippetSession.OK);
                Check.same("selection", Check.selection(x), pos + ".." + pos + " -1 0");
            }
        }
    }

    private static void stateBeforeRange() {
        Check.says("`setCaret(pos)` tests in order");
        SnippetSession x = Check.expanded("${1:abc}");
        for (int pos : INTS) {
            Check.refused("setCaret(" + pos + ")", x, () -> x.setCaret(pos), SnippetSession.STATE);
        }
    }

    private static void anyInt() {
        Check.says("Any int value of pos is handled.");
        for (String[] state : Twin.STATES) {
            for (int pos : INTS) {
                SnippetSession x = Twin.make(state);
                int outside = pos >= 0 && pos <= Check.length(x) ? SnippetSession.OK : SnippetSession.RANGE;
                Check.is("setCaret(" + pos + ") in " + String.join(", ", state), x.setCaret(pos),
                        Check.active(x) == -1 ? outside : SnippetSession.STATE);
            }
        }
    }

    private static void startsNoGroup() {
        Check.says("No group is started");
        SnippetSession x = new SnippetSession(20, 4);
        Check.play(x, "caret 0");
        Check.is("in a fresh object", Check.undoDepth(x), 0);
        Check.play(x, "type abc", "caret 1");
        Check.is("after typing", Check.undoDepth(x), 1);
    }

    private static void clearsMerge() {
        Check.says("on success merge becomes false.");
        SnippetSession x = new SnippetSession(20, 4);
        Check.type(x, "abc");
        Check.refused("a refused call keeps it", x, () -> x.setCaret(4), SnippetSession.RANGE);
        Check.is("merge", Check.merge(x), 1);
        Check.is("to the same place", x.setCaret(3), SnippetSession.OK);
        Check.is("merge then", Check.merge(x), 0);
        Check.play(x, "type d");
        Check.is("typing starts a group", Check.undoDepth(x), 2);
    }

    private static void keepsTheBuffer() {
        Check.says("The buffer does not change.");
        SnippetSession x = new SnippetSession(20, 4);
        Check.play(x, "type abc", "caret 0");
        Check.same("text", Check.text(x), "abc");
        Check.play(x, "caret 3");
        Check.same("text again", Check.text(x), "abc");
    }
}
