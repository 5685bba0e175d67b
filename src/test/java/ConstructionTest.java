/** Promise 1. */
public final class ConstructionTest {
    private static final int[] INTS = {
        Integer.MIN_VALUE, Integer.MIN_VALUE + 1, -65536, -64, -16, -8, -1, 0, 1, 7, 8, 9, 15, 16, 17, 63, 64, 65,
        127, 128, 256, 264, 65536, 65536 + 8, Integer.MAX_VALUE - 1, Integer.MAX_VALUE};

    public static void main(String[] args) {
        capacityTooSmall();
        capacityTooLarge();
        capacityKept();
        historyCapTooSmall();
        historyCapTooLarge();
        historyCapKept();
        anyInt();
        startsEmpty();
        limitsNeverChange();
        limitsBind();
        Check.finish();
    }

    private static void checkCapacity(int given, int due) {
        SnippetSession x = new SnippetSession(given, 5);
        Check.is("capacity " + given, x.info(SnippetSession.INFO_CAPACITY), due);
        Check.is("history cap beside it", x.info(SnippetSession.INFO_HISTORY_CAP), 5);
    }

    private static void checkHistoryCap(int given, int due) {
        SnippetSession x = new SnippetSession(20, given);
        Check.is("history cap " + given, x.info(SnippetSession.INFO_HISTORY_CAP), due);
        Check.is("capacity beside it", x.info(SnippetSession.INFO_CAPACITY), 20);
    }

    private static void capacityTooSmall() {
        Check.says("A capacity below 8 becomes 8");
        for (int given : new int[] {Integer.MIN_VALUE, -64, -8, -1, 0, 1, 6, 7}) {
            checkCapacity(given, 8);
        }
    }

    private static void capacityTooLarge() {
        Check.says("above 64 becomes 64");
        for (int given : new int[] {65, 66, 128, 256 + 20, Integer.MAX_VALUE}) {
            checkCapacity(given, 64);
        }
    }

    private static void capacityKept() {
        Check.says("otherwise it is kept");
        for (int given = 8; given <= 64; given++) {
            checkCapacity(given, given);
        }
    }

    private static void historyCapTooSmall() {
        Check.says("a historyCap below 1 becomes 1");
        for (int given : new int[] {Integer.MIN_VALUE, -16, -1, 0}) {
            checkHistoryCap(given, 1);
        }
    }

    private static void historyCapTooLarge() {
        Check.says("above 16 becomes 16");
        for (int given : new int[] {17, 18, 64, 256 + 4, Integer.MAX_VALUE}) {
            checkHistoryCap(given, 16);
        }
    }

    private static void historyCapKept() {
        Check.says("otherwise it is kept");
        for (int given = 1; given <= 16; given++) {
            checkHistoryCap(given, given);
        }
    }

    private static void anyInt() {
        Check.says("Any int value is accepted.");
        for (int capacity : INTS) {
            for (int cap : INTS) {
                SnippetSession x = new SnippetSession(capacity, cap);
                Check.is("capacity " + capacity, x.info(SnippetSession.INFO_CAPACITY),
                        Math.max(8, Math.min(64, capacity)));
                Check.is("history cap " + cap, x.info(SnippetSession.INFO_HISTORY_CAP),
                        Math.max(1, Math.min(16, cap)));
            }
        }
    }

    private static void startsEmpty() {
        Check.says("The fresh object has an empty buffer, an empty body and an empty history,"
                + " caret 0 (so selStart 0), no session and merge false.");
        for (int capacity : new int[] {8, 10, 64}) {
            for (int cap : new int[] {1, 3, 16}) {
                SnippetSession x = new SnippetSession(capacity, cap);
                Check.same("what the getters tell", Check.whole(x), "\"\" body \"\" info 0 0 0 -1 0 0 0 0 " + capacity
                        + " " + cap + " stops" + " 0@-1..-1".repeat(10));
                Check.refused("nothing to undo", x, x::undo, SnippetSession.EMPTY);
                Check.refused("nothing to delete", x, x::backspace, SnippetSession.EMPTY);
                Check.refused("no session to leave", x, x::escape, SnippetSession.STATE);
                Check.play(x, "type a");
                Check.is("merge was false", Check.undoDepth(x), 1);
            }
        }
    }

    private static void limitsNeverChange() {
        Check.says("info(INFO_CAPACITY) and info(INFO_HISTORY_CAP) answer the clamped values,"
                + " and these never change afterwards.");
        for (String[] state : Twin.STATES) {
            SnippetSession x = Twin.make(state);
            String[] calls = {"undo", "type abcdefghij", "back", "next", "prev", "escape", "caret 0", "body ${1:a}$1",
                "expand", "type q", "feed 31", "code 31", "undo", "undo", "undo", "caret 99"};
            for (String call : calls) {
                Steps.take(x, call);
                Check.is("capacity after " + call, x.info(SnippetSession.INFO_CAPACITY), Integer.parseInt(state[0]));
                Check.is("cap after " + call, x.info(SnippetSession.INFO_HISTORY_CAP), Integer.parseInt(state[1]));
            }
        }
    }

    private static void limitsBind() {
        Check.says("fixes the capacity and the history cap");
        int[][] limits = {
            {-5, 0, 8, 1}, {7, 1, 8, 1}, {8, 2, 8, 2}, {33, 7, 33, 7}, {64, 16, 64, 16}, {65, 17, 64, 16}};
        for (int[] l : limits) {
            SnippetSession x = new SnippetSession(l[0], l[1]);
            Check.type(x, "a".repeat(l[2]));
            Check.refused("one too many", x, () -> x.typeChar('a'), SnippetSession.FULL);
            for (int i = 0; i < l[3] + 2 && Check.caret(x) > 0; i++) {
                x.backspace();
            }
            Check.is("snapshots held", Check.undoDepth(x), l[3]);
        }
    }
}
