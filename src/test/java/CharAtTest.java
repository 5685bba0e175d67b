/** Promise 12. */
public final class CharAtTest {
    private static final int[] INTS = {
        Integer.MIN_VALUE, Integer.MIN_VALUE + 1, -65536, -64, -2, -1, 64, 65, 128, 256, 65536, Integer.MAX_VALUE - 1,
        Integer.MAX_VALUE};

    public static void main(String[] args) {
        answersTheBuffer();
        answersNothingBesideTheBuffer();
        answersNothingBehindAShortenedBuffer();
        answersTheBody();
        answersNothingBesideTheBody();
        answersNothingBehindAClearedBody();
        anyInt();
        changesNothing();
        Check.finish();
    }

    private static void answersTheBuffer() {
        Check.says("`charAt(i)` answers the buffer code at i");
        SnippetSession x = new SnippetSession(64, 2);
        for (int i = 0; i < 64; i++) {
            Check.is("typeChar", x.typeChar(32 + i), SnippetSession.OK);
        }
        for (int i = 0; i < 64; i++) {
            Check.is("charAt(" + i + ")", x.charAt(i), 32 + i);
        }
        SnippetSession y = Check.expanded(64, 2, "AB", 1, "${1:~}$1 ");
        Check.is("before", y.charAt(0), 'A');
        Check.is("in a stop", y.charAt(1), '~');
        Check.is("in a mirror", y.charAt(2), '~');
        Check.is("a literal", y.charAt(3), ' ');
        Check.is("behind", y.charAt(4), 'B');
    }

    private static void answersNothingBesideTheBuffer() {
        Check.says("or -1 if i < 0 or i >= length.");
        for (int length = 0; length <= 8; length++) {
            SnippetSession x = new SnippetSession(8, 2);
            Check.type(x, "abcdefgh".substring(0, length));
            Check.is("charAt(-1)", x.charAt(-1), -1);
            Check.is("charAt(length)", x.charAt(length), -1);
            Check.is("charAt(length + 1)", x.charAt(length + 1), -1);
            if (length > 0) {
                Check.is("charAt(length - 1)", x.charAt(length - 1), 'a' + length - 1);
            }
        }
        SnippetSession full = new SnippetSession(64, 2);
        Check.type(full, "z".repeat(64));
        Check.is("the last place", full.charAt(63), 'z');
        Check.is("behind the last place", full.charAt(64), -1);
    }

    private static void answersNothingBehindAShortenedBuffer() {
        Check.says("or -1 if i < 0 or i >= length.");
        SnippetSession x = new SnippetSession(8, 2);
        Check.play(x, "type abcdefgh", "back");
        Check.is("after backspace", x.charAt(7), -1);
        Check.play(x, "undo", "undo");
        Check.is("after undo", x.charAt(0), -1);
        SnippetSession y = Check.expanded("${1:abc}");
        Check.play(y, "type q");
        Check.is("after typing over a default", y.charAt(1), -1);
    }

    private static void answersTheBody() {
        Check.says("`bodyCharAt(i)` answers the body code at i");
        SnippetSession x = new SnippetSession(8, 2);
        for (int i = 0; i < 64; i++) {
            Check.is("feed", x.feed(126 - i), SnippetSession.OK);
        }
        for (int i = 0; i < 64; i++) {
            Check.is("bodyCharAt(" + i + ")", x.bodyCharAt(i), 126 - i);
        }
        SnippetSession y = Check.expanded("${1:a}");
        Check.is("in a session", y.bodyCharAt(4), 'a');
    }

    private static void answersNothingBesideTheBody() {
        Check.says("or -1 if i < 0 or i >= body length.");
        for (int length = 0; length <= 64; length++) {
            SnippetSession x = new SnippetSession(8, 2);
            Check.setBody(x, "b".repeat(length));
            Check.is("bodyCharAt(-1)", x.bodyCharAt(-1), -1);
            Check.is("bodyCharAt(length)", x.bodyCharAt(length), -1);
            Check.is("bodyCharAt(length + 1)", x.bodyCharAt(length + 1), -1);
            if (length > 0) {
                Check.is("bodyCharAt(length - 1)", x.bodyCharAt(length - 1), 'b');
            }
        }
    }

    private static void answersNothingBehindAClearedBody() {
        Check.says("or -1 if i < 0 or i >= body length.");
        SnippetSession x = new SnippetSession(8, 2);
        Check.play(x, "body abcdef", "body x");
        Check.is("its only code", x.bodyCharAt(0), 'x');
        Check.is("behind it", x.bodyCharAt(1), -1);
    }

    private static void anyInt() {
        Check.says("Any int value of i is handled.");
        for (String[] state : Twin.STATES) {
            SnippetSession x = Twin.make(state);
            for (int i : INTS) {
                Check.is("charAt(" + i + ")", x.charAt(i), -1);
                Check.is("bodyCharAt(" + i + ")", x.bodyCharAt(i), -1);
            }
        }
    }

    private static void changesNothing() {
        Check.says("Neither changes anything.");
        for (String[] state : Twin.STATES) {
            Twin.unchangedBy("charAt and bodyCharAt", state, x -> {
                for (int i = -2; i <= 66; i++) {
                    x.charAt(i);
                    x.bodyCharAt(i);
                }
                for (int i : INTS) {
                    x.charAt(i);
                    x.bodyCharAt(i);
                }
            });
        }
    }
}
