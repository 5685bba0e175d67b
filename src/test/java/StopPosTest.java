/** Promise 15. */
public final class StopPosTest {
    private static final int[] NO_WHICH = {
        Integer.MIN_VALUE, Integer.MIN_VALUE + 1, -2, -1, 2, 3, 10, 256, 65536 + 1, Integer.MAX_VALUE - 1,
        Integer.MAX_VALUE};
    private static final int[] NO_STOP = {
        Integer.MIN_VALUE, Integer.MIN_VALUE + 1, -256, -2, -1, 10, 11, 256 + 1, 65536 + 1, Integer.MAX_VALUE - 1,
        Integer.MAX_VALUE};

    public static void main(String[] args) {
        ranges();
        emptyRanges();
        rangesAtTheEdges();
        rangesAfterTyping();
        finalPosition();
        otherWhich();
        absentStops();
        deadStops();
        noSession();
        changesNothing();
        Check.finish();
    }

    private static void ranges() {
        Check.says("answers, for which = 0, the start and, for which = 1, the end of stop n's range");
        SnippetSession x = Check.expanded(64, 16, "abc", 2, "-${1:a${2:bb}c${3:}}$2${4:d}");
        Check.same("text", Check.text(x), "ab-abbcbbdc");
        Check.is("start of 1", x.stopPos(1, 0), 3);
        Check.is("end of 1", x.stopPos(1, 1), 7);
        Check.same("2", Check.range(x, 2), "4..6");
        Check.same("3", Check.range(x, 3), "7..7");
        Check.same("4", Check.range(x, 4), "9..10");
        SnippetSession nine = Check.expanded("${1:a}${2:b}${3:c}${4:d}${5:e}${6:f}${7:g}${8:h}${9:i}");
        for (int n = 1; n <= 9; n++) {
            Check.same("stop " + n + " of nine", Check.range(nine, n), (n - 1) + ".." + n);
        }
    }

    private static void emptyRanges() {
        Check.says("answers, for which = 0, the start and, for which = 1, the end of stop n's range");
        SnippetSession x = Check.expanded("$1${2:}${3:$4}a$5");
        for (int n = 1; n <= 4; n++) {
            Check.same("empty stop " + n, Check.range(x, n), "0..0");
        }
        Check.same("empty stop 5", Check.range(x, 5), "1..1");
        Check.play(x, "type q", "back");
        Check.same("an emptied stop", Check.range(x, 1), "0..0");
    }

    private static void rangesAtTheEdges() {
        Check.says("answers, for which = 0, the start and, for which = 1, the end of stop n's range");
        SnippetSession whole = Check.expanded("${1:" + "a".repeat(59) + "}");
        Check.same("the whole buffer", Check.range(whole, 1), "0..59");
        SnippetSession last = Check.expanded(64, 16, "a".repeat(64), 64, "$1");
        Check.same("at the end of a full buffer", Check.range(last, 1), "64..64");
        Check.same("the final position there", Check.range(last, 0), "64..64");
        SnippetSession first = Check.expanded(64, 16, "a".repeat(64), 0, "$1");
        Check.same("at the start of a full buffer", Check.range(first, 1), "0..0");
    }

    private static void rangesAfterTyping() {
        Check.says("answers, for which = 0, the start and, for which = 1, the end of stop n's range");
        SnippetSession x = Check.expanded("${3:c}${1:a${2:b}}$1$0${4:d}");
        Check.play(x, "next", "type xyz");
        Check.same("text", Check.text(x), "caxyzaxyzd");
        Check.same("3, before it", Check.range(x, 3), "0..1");
        Check.same("1, around it", Check.range(x, 1), "1..5");
        Check.same("2", Check.range(x, 2), "2..5");
        Check.same("4", Check.range(x, 4), "9..10");
        Check.play(x, "prev", "back");
        Check.same("1, emptied", Check.range(x, 1), "1..1");
        Check.same("4, behind", Check.range(x, 4), "1..2");
        Check.play(x, "undo");
        Check.same("1, undone", Check.range(x, 1), "1..5");
    }

    private static void finalPosition() {
        Check.says("for n = 0 both answer the final position.");
        SnippetSession before = Check.expanded(64, 16, "ab", 1, "$0${1:xyz}");
        Check.same("before the stop", Check.range(before, 0), "1..1");
        SnippetSession added = Check.expanded(64, 16, "ab", 1, "${1:xyz}.");
        Check.same("added after all items", Check.range(added, 0), "5..5");
        SnippetSession between = Check.expanded("${1:xy}$0$1${2:z}$1");
        Check.same("just before a mirror", Check.range(between, 0), "2..2");
        Check.play(between, "type q");
        Check.same("after typing", Check.range(between, 0), "1..1");
        Check.play(between, "back");
        Check.same("after emptying", Check.range(between, 0), "0..0");
    }

    private static void otherWhich() {
        Check.says("It answers -1 if which is not 0 or 1");
        SnippetSession x = Check.expanded("${1:a$2}$9");
        Check.play(x, "type q");
        for (int which : NO_WHICH) {
            for (int n = 0; n <= 9; n++) {
                Check.is("stopPos(" + n + ", " + which + ")", x.stopPos(n, which), -1);
            }
            for (int n : NO_STOP) {
                Check.is("stopPos(" + n + ", " + which + ")", x.stopPos(n, which), -1);
            }
        }
    }

    private static void absentStops() {
        Check.says("or if stopState(n) is ABSENT or DEAD");
        SnippetSession x = Check.expanded("${1:a$2}$9");
        for (int n = 3; n <= 8; n++) {
            Check.same("absent " + n, Check.range(x, n), "-1..-1");
        }
        for (int n : NO_STOP) {
            Check.same("outside " + n, Check.range(x, n), "-1..-1");
        }
    }

    private static void deadStops() {
        Check.says("or if stopState(n) is ABSENT or DEAD");
        SnippetSession x = Check.expanded("${1:a${2:b$3}}$2$3");
        Check.play(x, "next", "next", "type q", "prev", "prev", "type z");
        Check.same("the typed stop around", Check.range(x, 1), "0..1");
        Check.same("dead, not typed", Check.range(x, 2), "-1..-1");
        Check.same("dead, typed", Check.range(x, 3), "-1..-1");
        Check.play(x, "undo");
        Check.same("alive again", Check.range(x, 3), "2..3");
    }

    private static void noSession() {
        Check.says("(so always -1 when no session is active)");
        for (String[] state : Twin.STATES) {
            SnippetSession x = Twin.make(state);
            Steps.take(x, "escape");
            for (int which : new int[] {-1, 0, 1, 2}) {
                for (int n = -1; n <= 10; n++) {
                    Check.is("stopPos(" + n + ", " + which + ")", x.stopPos(n, which), -1);
                }
            }
        }
    }

    private static void changesNothing() {
        Check.says("It changes nothing.");
        for (String[] state : Twin.STATES) {
            Twin.unchangedBy("stopPos", state, x -> {
                for (int n = -1; n <= 10; n++) {
                    for (int which : new int[] {Integer.MIN_VALUE, -1, 0, 1, 2, Integer.MAX_VALUE}) {
                        x.stopPos(n, which);
                    }
                }
                for (int n : NO_STOP) {
                    x.stopPos(n, 0);
                    x.stopPos(n, 1);
                }
            });
        }
    }
}
