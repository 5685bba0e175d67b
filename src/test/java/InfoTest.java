/** Promise 13. */
public final class InfoTest {
    public static void main(String[] args) {
        answersEachKey();
        answersOutsideASession();
        refusesOtherKeys();
        Check.finish();
    }

    private static void answersEachKey() {
        SnippetSession x = Check.expanded(40, 7, "abc", 1, "-${3:xyz}");
        int[] selected = {7, 5, 2, 3, 1, 1, 9, 0, 40, 7};
        for (int key = 0; key < selected.length; key++) {
            Check.is("selected, key " + key, x.info(key), selected[key]);
        }
        Check.type(x, "q");
        int[] typed = {5, 3, 3, 3, 0, 2, 9, 1, 40, 7};
        for (int key = 0; key < typed.length; key++) {
            Check.is("typed, key " + key, x.info(key), typed[key]);
        }
    }

    private static void answersOutsideASession() {
        SnippetSession x = Check.expanded(40, 7, "abc", 1, "-${3:xyz}");
        x.escape();
        int[] escaped = {7, 5, 5, -1, 0, 1, 9, 0, 40, 7};
        for (int key = 0; key < escaped.length; key++) {
            Check.is("escaped, key " + key, x.info(key), escaped[key]);
        }
    }

    private static void refusesOtherKeys() {
        SnippetSession x = Check.expanded("${1:a}");
        String before = Check.whole(x);
        for (int key : new int[] {Integer.MIN_VALUE, -7, -1, 10, 11, 64, Integer.MAX_VALUE}) {
            Check.is("info(" + key + ")", x.info(key), -1);
        }
        Check.same("nothing changes", Check.whole(x), before);
    }
}
