/** Promise 13. */
public final class InfoTest {
    private static final int[] OTHER_KEYS = {
        Integer.MIN_VALUE, Integer.MIN_VALUE + 5, -10, -7, -2, -1, 10, 11, 16, 64, 256, 65536 + 3,
        Integer.MAX_VALUE - 1, Integer.MAX_VALUE};

    public static void main(String[] args) {
        answersEachKey();
        answersAtTheLeast();
        answersAtTheMost();
        activeStop();
        selectedFlag();
        otherKeys();
        changesNothing();
        Check.finish();
    }

    private static void answers(String what, SnippetSession x, int... due) {
        for (int key = 0; key <= 9; key++) {
            Check.is(what + ", key " + key, x.info(key), due[key]);
        }
    }

    private static void answersEachKey() {
        Check.says("`info(key)` answers the value named by an INFO_ key");
        SnippetSession x = Check.expanded(40, 7, "abc", 1, "-${3:xyz}");
        answers("selected", x, 7, 5, 2, 3, 1, 1, 9, 0, 40, 7);
        Check.play(x, "type q");
        answers("typed", x, 5, 3, 3, 3, 0, 2, 9, 1, 40, 7);
        Check.play(x, "undo", "escape");
        answers("escaped", x, 7, 5, 5, -1, 0, 1, 9, 0, 40, 7);
    }

    private static void answersAtTheLeast() {
        Check.says("`info(key)` answers the value named by an INFO_ key");
        answers("fresh", new SnippetSession(0, 0), 0, 0, 0, -1, 0, 0, 0, 0, 8, 1);
    }

    private static void answersAtTheMost() {
        Check.says("`info(key)` answers the value named by an INFO_ key");
        SnippetSession x = new SnippetSession(64, 16);
        Check.type(x, "a".repeat(64));
        for (int i = 0; i < 20; i++) {
            Check.play(x, "back", "type b");
        }
        Check.setBody(x, "c".repeat(64));
        answers("full", x, 64, 64, 64, -1, 0, 16, 64, 1, 64, 16);
    }

    private static void activeStop() {
        Check.says("active stop (1..9, or -1 when no session)");
        SnippetSession x = Check.expanded("$1$2$3$4$5$6$7$8$9");
        for (int n = 1; n <= 9; n++) {
            Check.is("stop " + n, x.info(SnippetSession.INFO_ACTIVE), n);
            Check.play(x, "next");
        }
        Check.is("no session", x.info(SnippetSession.INFO_ACTIVE), -1);
    }

    private static void selectedFlag() {
        Check.says("selected (1 if a session is active and selected, else 0)");
        for (String end : new String[] {"next", "escape", "undo"}) {
            SnippetSession x = Check.expanded("${1:abc}");
            Check.is("selected", x.info(SnippetSession.INFO_SELECTED), 1);
            Check.play(x, end);
            Check.is("no session after " + end, x.info(SnippetSession.INFO_SELECTED), 0);
        }
        SnippetSession y = Check.expanded("${1:abc}");
        Check.play(y, "type q");
        Check.is("a session, not selected", y.info(SnippetSession.INFO_SELECTED), 0);
    }

    private static void otherKeys() {
        Check.says("Any other key answers -1.");
        for (String[] state : Twin.STATES) {
            SnippetSession x = Twin.make(state);
            for (int key : OTHER_KEYS) {
                Check.is("info(" + key + ")", x.info(key), -1);
            }
        }
    }

    private static void changesNothing() {
        Check.says("It changes nothing.");
        for (String[] state : Twin.STATES) {
            Twin.unchangedBy("info", state, x -> {
                for (int key = -1; key <= 10; key++) {
                    x.info(key);
                }
                for (int key : OTHER_KEYS) {
                    x.info(key);
                }
            });
        }
    }
}
