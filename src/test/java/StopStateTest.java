/** Promise 14. */
public final class StopStateTest {
    private static final int[] OUTSIDE = {
        Integer.MIN_VALUE, Integer.MIN_VALUE + 1, -256, -9, -2, -1, 10, 11, 16, 256 + 1, 65536 + 1,
        Integer.MAX_VALUE - 1, Integer.MAX_VALUE};

    public static void main(String[] args) {
        absentWithoutASession();
        absentOutsideTheStops();
        finalStop();
        absentWhenNotPresent();
        dead();
        deadBeforeTyped();
        typed();
        untouched();
        changesNothing();
        Check.finish();
    }

    private static void states(String what, SnippetSession x, int... due) {
        for (int n = 0; n <= 9; n++) {
            Check.is(what + ", stop " + n, x.stopState(n), due[n]);
        }
    }

    private static void absentWithoutASession() {
        Check.says("no session, or n outside 0..9, answers ABSENT");
        SnippetSession fresh = new SnippetSession(20, 4);
        SnippetSession escaped = Check.expanded("${1:a$2}");
        Check.play(escaped, "type q", "escape");
        SnippetSession ended = Check.expanded("${1:a$2}");
        Check.play(ended, "next", "next");
        SnippetSession undone = Check.expanded("${1:a$2}");
        Check.play(undone, "undo");
        SnippetSession noStops = Check.expanded("a$0");
        for (SnippetSession x : new SnippetSession[] {fresh, escaped, ended, undone, noStops}) {
            states("no session", x, 0, 0, 0, 0, 0, 0, 0, 0, 0, 0);
            for (int n : OUTSIDE) {
                Check.is("no session, " + n, x.stopState(n), SnippetSession.ABSENT);
            }
        }
    }

    private static void absentOutsideTheStops() {
        Check.says("no session, or n outside 0..9, answers ABSENT");
        SnippetSession x = Check.expanded("$1$2$3$4$5$6$7$8$9");
        for (int n : OUTSIDE) {
            Check.is("stopState(" + n + ")", x.stopState(n), SnippetSession.ABSENT);
        }
        Check.is("9 is inside", x.stopState(9), SnippetSession.UNTOUCHED);
        Check.is("0 is inside", x.stopState(0), SnippetSession.FINAL);
    }

    private static void finalStop() {
        Check.says("n = 0 answers FINAL");
        for (String body : new String[] {"$1", "$1$0", "$0$1", "${1:a}${0}b"}) {
            SnippetSession x = Check.expanded(body);
            Check.is(body, x.stopState(0), SnippetSession.FINAL);
            Check.play(x, "type q");
            Check.is(body + " after typing", x.stopState(0), SnippetSession.FINAL);
        }
    }

    private static void absentWhenNotPresent() {
        Check.says("n not present answers ABSENT");
        for (int there = 1; there <= 9; there++) {
            SnippetSession x = Check.expanded("${" + there + ":a}");
            Check.play(x, "type q");
            for (int n = 1; n <= 9; n++) {
                Check.is("stop " + n, x.stopState(n), n == there ? SnippetSession.TYPED : SnippetSession.ABSENT);
            }
        }
        SnippetSession again = Check.expanded("${1:a}${2:b}");
        Check.play(again, "type q", "escape", "body $3", "expand");
        states("present in an earlier structure only", again, 4, 0, 0, 1, 0, 0, 0, 0, 0, 0);
    }

    private static void dead() {
        Check.says("n dead answers DEAD");
        SnippetSession x = Check.expanded("${1:a${2:b$3}}${5:c}$9");
        Check.play(x, "type q");
        states("1 typed", x, 4, 2, 3, 3, 0, 1, 0, 0, 0, 1);
        Check.play(x, "undo");
        states("undone", x, 4, 1, 1, 1, 0, 1, 0, 0, 0, 1);
        Check.play(x, "back");
        states("1 emptied", x, 4, 2, 3, 3, 0, 1, 0, 0, 0, 1);
    }

    private static void deadBeforeTyped() {
        Check.says("`stopState(n)`, tested in order");
        SnippetSession x = Check.expanded("${1:a${2:b$3}}");
        Check.play(x, "next", "next", "type q", "prev", "prev", "back");
        states("3 typed, then 1", x, 4, 2, 3, 3, 0, 0, 0, 0, 0, 0);
    }

    private static void typed() {
        Check.says("n's typed flag set answers TYPED");
        SnippetSession x = Check.expanded("${1:a${2:b}}$3");
        Check.play(x, "next", "type q");
        states("2 typed", x, 4, 1, 2, 1, 0, 0, 0, 0, 0, 0);
        Check.play(x, "back");
        states("with an empty text", x, 4, 1, 2, 1, 0, 0, 0, 0, 0, 0);
        Check.play(x, "next", "prev");
        states("selected again", x, 4, 1, 2, 1, 0, 0, 0, 0, 0, 0);
    }

    private static void untouched() {
        Check.says("otherwise UNTOUCHED.");
        SnippetSession x = Check.expanded("${1:a${2:b$3}}${5:c}$9");
        states("all", x, 4, 1, 1, 1, 0, 1, 0, 0, 0, 1);
        Check.play(x, "next", "next", "next", "next");
        states("visited only", x, 4, 1, 1, 1, 0, 1, 0, 0, 0, 1);
    }

    private static void changesNothing() {
        Check.says("It changes nothing.");
        for (String[] state : Twin.STATES) {
            Twin.unchangedBy("stopState", state, x -> {
                for (int n = -1; n <= 10; n++) {
                    x.stopState(n);
                }
                for (int n : OUTSIDE) {
                    x.stopState(n);
                }
            });
        }
    }
}
