/** Promise 14. */
public final class StopStateTest {
    public static void main(String[] args) {
        answersAbsentWithoutASession();
        answersEachState();
        answersDeadBeforeTyped();
        refusesOtherStops();
        Check.finish();
    }

    private static void answersAbsentWithoutASession() {
        SnippetSession x = new SnippetSession(20, 4);
        SnippetSession ended = Check.expanded("${1:a$2}");
        ended.escape();
        SnippetSession plain = Check.expanded("a$0");
        for (int n = -1; n <= 10; n++) {
            Check.is("fresh, " + n, x.stopState(n), SnippetSession.ABSENT);
            Check.is("ended, " + n, ended.stopState(n), SnippetSession.ABSENT);
            Check.is("no stops, " + n, plain.stopState(n), SnippetSession.ABSENT);
        }
    }

    private static void answersEachState() {
        SnippetSession x = Check.expanded("${1:a${2:b$3}}${5:c}$9");
        int[] fresh = {4, 1, 1, 1, 0, 1, 0, 0, 0, 1};
        for (int n = 0; n <= 9; n++) {
            Check.is("fresh, " + n, x.stopState(n), fresh[n]);
        }
        x.next();
        Check.type(x, "q");
        int[] typed = {4, 1, 2, 3, 0, 1, 0, 0, 0, 1};
        for (int n = 0; n <= 9; n++) {
            Check.is("2 typed, " + n, x.stopState(n), typed[n]);
        }
        x.undo();
        Check.is("undone", x.stopState(3), SnippetSession.UNTOUCHED);
    }

    private static void answersDeadBeforeTyped() {
        SnippetSession x = Check.expanded("${1:a${2:b$3}}");
        x.next();
        x.next();
        Check.type(x, "q");
        x.prev();
        x.prev();
        x.backspace();
        Check.is("1", x.stopState(1), SnippetSession.TYPED);
        Check.is("2, not typed but dead", x.stopState(2), SnippetSession.DEAD);
        Check.is("3, typed and dead", x.stopState(3), SnippetSession.DEAD);
    }

    private static void refusesOtherStops() {
        SnippetSession x = Check.expanded("${1:a}$9");
        String before = Check.whole(x);
        for (int n : new int[] {Integer.MIN_VALUE, -1, 10, 11, Integer.MAX_VALUE}) {
            Check.is("stopState(" + n + ")", x.stopState(n), SnippetSession.ABSENT);
        }
        Check.same("nothing changes", Check.whole(x), before);
    }
}
