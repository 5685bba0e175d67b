/** Promise 1. */
public final class ConstructionTest {
    public static void main(String[] args) {
        clamps();
        startsEmpty();
        keepsItsLimits();
        Check.finish();
    }

    private static void clamps() {
        int[][] capacities = {
            {Integer.MIN_VALUE, 8}, {-1, 8}, {0, 8}, {7, 8}, {8, 8}, {9, 9}, {40, 40},
            {63, 63}, {64, 64}, {65, 64}, {Integer.MAX_VALUE, 64}};
        for (int[] c : capacities) {
            SnippetSession x = new SnippetSession(c[0], 5);
            Check.is("capacity " + c[0], x.info(SnippetSession.INFO_CAPACITY), c[1]);
            Check.is("history cap beside it", x.info(SnippetSession.INFO_HISTORY_CAP), 5);
        }
        int[][] caps = {
            {Integer.MIN_VALUE, 1}, {-1, 1}, {0, 1}, {1, 1}, {2, 2}, {15, 15}, {16, 16},
            {17, 16}, {Integer.MAX_VALUE, 16}};
        for (int[] c : caps) {
            SnippetSession x = new SnippetSession(20, c[0]);
            Check.is("history cap " + c[0], x.info(SnippetSession.INFO_HISTORY_CAP), c[1]);
            Check.is("capacity beside it", x.info(SnippetSession.INFO_CAPACITY), 20);
        }
    }

    private static void startsEmpty() {
        SnippetSession x = new SnippetSession(10, 3);
        Check.same("a fresh object", Check.whole(x), "\"\" body \"\" info 0 0 0 -1 0 0 0 0 10 3 stops"
                + " 0@-1..-1".repeat(10));
        Check.is("nothing to undo", x.undo(), SnippetSession.EMPTY);
    }

    private static void keepsItsLimits() {
        for (int capacity : new int[] {8, 33, 64}) {
            SnippetSession x = new SnippetSession(capacity, 2);
            Check.type(x, "a".repeat(capacity));
            Check.is("one too many", x.typeChar('a'), SnippetSession.FULL);
            Check.is("the capacity stays", x.info(SnippetSession.INFO_CAPACITY), capacity);
        }
        for (int cap : new int[] {1, 7, 16}) {
            SnippetSession x = new SnippetSession(64, cap);
            Check.type(x, "a".repeat(30));
            for (int i = 0; i < 20; i++) {
                x.backspace();
            }
            Check.is("snapshots held", Check.undoDepth(x), cap);
            Check.is("the cap stays", x.info(SnippetSession.INFO_HISTORY_CAP), cap);
        }
    }
}
