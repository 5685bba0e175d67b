/** "Not promised": the sentences there that still tell an answer. */
public final class NotPromisedTest {
    public static void main(String[] args) {
        droppedSnapshots();
        positionsOfDeadStops();
        positionsOutsideASession();
        Check.finish();
    }

    private static void droppedSnapshots() {
        Check.says("Once the oldest snapshot has been dropped because the history was full, the state it held cannot"
                + " be reached by undo.");
        for (int cap = 1; cap <= 16; cap++) {
            SnippetSession x = Check.expanded(64, cap, "AB", 1, "${1:a}$1");
            Check.type(x, "1234567");
            for (int groups = 2; groups <= cap; groups++) {
                // By turns, so that each of them starts a group.
                Check.play(x, groups % 2 == 0 ? "back" : "type z");
            }
            Check.is("held", Check.undoDepth(x), cap);
            for (int i = 0; i < cap; i++) {
                Check.play(x, "undo");
                Check.same("not the buffer before", Check.text(x).equals("AB"), false);
            }
            Check.same("the state after the expansion", Check.text(x) + " " + Check.selection(x), "AaaB 1..2 1 1");
            Check.refused("no more", x, x::undo, SnippetSession.EMPTY);
        }
    }

    private static void positionsOfDeadStops() {
        Check.says("Nothing is promised about positions of dead stops or of stops outside a session beyond the -1"
                + " answers above.");
        SnippetSession x = Check.expanded("${1:a${2:b${3:c${4:d$5}}}}");
        Check.play(x, "type q");
        for (int n = 2; n <= 5; n++) {
            Check.same("dead stop " + n, Check.range(x, n), "-1..-1");
        }
    }

    private static void positionsOutsideASession() {
        Check.says("Nothing is promised about positions of dead stops or of stops outside a session beyond the -1"
                + " answers above.");
        SnippetSession x = Check.expanded("${1:a${2:b}}$3$0");
        Check.play(x, "type q", "escape");
        for (int n = 0; n <= 9; n++) {
            Check.same("stop " + n, Check.range(x, n), "-1..-1");
        }
    }
}
