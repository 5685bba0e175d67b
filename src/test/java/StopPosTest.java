/** Promise 15. */
public final class StopPosTest {
    public static void main(String[] args) {
        answersRanges();
        followsTyping();
        answersTheFinalPosition();
        refusesWithoutARange();
        Check.finish();
    }

    private static void answersRanges() {
        SnippetSession x = Check.expanded(64, 16, "abc", 2, "-${1:a${2:bb}c${3:}}$2${4:d}");
        Check.same("text", Check.text(x), "ab-abbcbbdc");
        Check.same("1", Check.range(x, 1), "3..7");
        Check.same("2", Check.range(x, 2), "4..6");
        Check.same("3", Check.range(x, 3), "7..7");
        Check.same("4", Check.range(x, 4), "9..10");
        Check.same("0", Check.range(x, 0), "10..10");
    }

    private static void followsTyping() {
        SnippetSession x = Check.expanded("${3:c}${1:a${2:b}}$1$0${4:d}");
        x.next();
        Check.type(x, "xyz");
        Check.same("text", Check.text(x), "caxyzaxyzd");
        Check.same("3, before it", Check.range(x, 3), "0..1");
        Check.same("1, around it", Check.range(x, 1), "1..5");
        Check.same("2", Check.range(x, 2), "2..5");
        Check.same("0, behind a mirror", Check.range(x, 0), "9..9");
        Check.same("4", Check.range(x, 4), "9..10");
        x.prev();
        x.backspace();
        Check.same("1, emptied", Check.range(x, 1), "1..1");
        Check.same("2, dead", Check.range(x, 2), "-1..-1");
        Check.same("4, behind", Check.range(x, 4), "1..2");
        x.undo();
        Check.same("1, undone", Check.range(x, 1), "1..5");
    }

    private static void answersTheFinalPosition() {
        SnippetSession x = Check.expanded(64, 16, "ab", 1, "$0${1:xyz}");
        Check.same("before the stop", Check.range(x, 0), "1..1");
        SnippetSession y = Check.expanded(64, 16, "ab", 1, "${1:xyz}.");
        Check.same("added after all items", Check.range(y, 0), "5..5");
        SnippetSession z = Check.expanded("${1:xy}$0$1${2:z}$1");
        Check.same("just before a mirror", Check.range(z, 0), "2..2");
        Check.same("between two mirrors", Check.range(z, 2), "4..5");
    }

    private static void refusesWithoutARange() {
        SnippetSession x = Check.expanded("${1:a$2}$9");
        String before = Check.whole(x);
        for (int which : new int[] {Integer.MIN_VALUE, -1, 2, 3, Integer.MAX_VALUE}) {
            for (int n = -1; n <= 10; n++) {
                Check.is("stopPos(" + n + ", " + which + ")", x.stopPos(n, which), -1);
            }
        }
        for (int n : new int[] {Integer.MIN_VALUE, -1, 3, 8, 10, Integer.MAX_VALUE}) {
            Check.same("absent " + n, Check.range(x, n), "-1..-1");
        }
        Check.same("nothing changes", Check.whole(x), before);
        x.escape();
        for (int n = 0; n <= 9; n++) {
            Check.same("no session " + n, Check.range(x, n), "-1..-1");
        }
    }
}
