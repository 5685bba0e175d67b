/** Promise 12. */
public final class CharAtTest {
    public static void main(String[] args) {
        answersTheBuffer();
        answersTheBody();
        Check.finish();
    }

    private static void answersTheBuffer() {
        SnippetSession x = new SnippetSession(8, 2);
        Check.is("an empty buffer", x.charAt(0), -1);
        Check.type(x, "abcdefgh");
        for (int i = 0; i < 8; i++) {
            Check.is("charAt(" + i + ")", x.charAt(i), 'a' + i);
        }
        for (int i : new int[] {Integer.MIN_VALUE, -1, 8, 64, 65, Integer.MAX_VALUE}) {
            Check.is("charAt(" + i + ")", x.charAt(i), -1);
        }
        x.backspace();
        Check.is("behind the end", x.charAt(7), -1);
        SnippetSession full = new SnippetSession(64, 2);
        Check.type(full, "z".repeat(64));
        Check.is("the last place", full.charAt(63), 'z');
        Check.is("behind the last place", full.charAt(64), -1);
        String before = Check.whole(full);
        full.charAt(3);
        Check.same("nothing changes", Check.whole(full), before);
    }

    private static void answersTheBody() {
        SnippetSession x = new SnippetSession(8, 2);
        Check.is("an empty body", x.bodyCharAt(0), -1);
        Check.setBody(x, "$1a");
        Check.is("first", x.bodyCharAt(0), '$');
        Check.is("second", x.bodyCharAt(1), '1');
        Check.is("third", x.bodyCharAt(2), 'a');
        for (int i : new int[] {Integer.MIN_VALUE, -1, 3, 64, Integer.MAX_VALUE}) {
            Check.is("bodyCharAt(" + i + ")", x.bodyCharAt(i), -1);
        }
        Check.setBody(x, "y".repeat(64));
        Check.is("the last place", x.bodyCharAt(63), 'y');
        Check.is("behind the last place", x.bodyCharAt(64), -1);
    }
}
