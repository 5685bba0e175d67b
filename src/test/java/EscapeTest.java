/** Promise 9. */
public final class EscapeTest {
    public static void main(String[] args) {
        refusesWithoutASession();
        leavesTheCaret();
        startsNoGroup();
        clearsMerge();
        keepsTheRest();
        Check.finish();
    }

    private static void refusesWithoutASession() {
        Check.says("`escape()` with no session answers STATE.");
        SnippetSession fresh = new SnippetSession(8, 2);
        Check.refused("fresh", fresh, fresh::escape, SnippetSession.STATE);
        Check.play(fresh, "type a");
        Check.refused("merging", fresh, fresh::escape, SnippetSession.STATE);
        SnippetSession noStops = Check.expanded("a$0b");
        Check.refused("after an expansion without stops", noStops, noStops::escape, SnippetSession.STATE);
        for (String end : new String[] {"next", "escape", "undo"}) {
            SnippetSession x = Check.expanded("$1");
            Check.play(x, end);
            Check.refused("after " + end, x, x::escape, SnippetSession.STATE);
        }
    }

    private static void leavesTheCaret() {
        Check.says("Otherwise the session ends, the caret is unchanged and selStart = caret; OK.");
        SnippetSession selected = Check.expanded(64, 16, "ab", 1, "${1:xyz}-$0");
        Check.play(selected, "escape");
        Check.same("the caret stays, the selection goes", Check.selection(selected), "4..4 -1 0");
        Check.play(selected, "type !");
        Check.same("typing goes on there", Check.text(selected), "axyz!-b");
        SnippetSession empty = Check.expanded(64, 16, "ab", 0, "$1");
        Check.play(empty, "escape");
        Check.same("an empty selection at the start", Check.selection(empty), "0..0 -1 0");
        SnippetSession typed = Check.expanded(64, 16, "ab", 1, "${1:xyz}-$0");
        Check.play(typed, "type qr", "escape");
        Check.same("after typing", Check.selection(typed), "3..3 -1 0");
    }

    private static void startsNoGroup() {
        Check.says("No group is started");
        SnippetSession x = Check.expanded("${1:a}");
        Check.play(x, "escape");
        Check.is("depth", Check.undoDepth(x), 1);
        SnippetSession y = Check.expanded("${1:a}");
        Check.play(y, "type q", "escape");
        Check.is("depth after typing", Check.undoDepth(y), 2);
    }

    private static void clearsMerge() {
        Check.says("merge becomes false.");
        SnippetSession x = Check.expanded("${1:a}");
        Check.play(x, "type q", "escape");
        Check.is("merge", Check.merge(x), 0);
        Check.play(x, "type r");
        Check.is("a new group", Check.undoDepth(x), 3);
    }

    private static void keepsTheRest() {
        Check.says("The buffer, typed flags, typed texts and structure do not change.");
        SnippetSession x = Check.expanded("${1:a${2:b}}$2$1");
        Check.play(x, "next", "type q", "prev", "type z", "escape");
        Check.same("buffer", Check.text(x), "zqz");
        Check.play(x, "type !");
        Check.same("the mirror no longer follows", Check.text(x), "z!qz");
        Check.play(x, "undo", "undo");
        Check.same("the session is back", Check.selection(x), "0..2 1 1");
        Check.is("with its typed flag", x.stopState(2), SnippetSession.TYPED);
        Check.play(x, "type s");
        Check.same("its texts and its structure", Check.text(x), "sqs");
    }
}
