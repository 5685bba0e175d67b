/** Promise 2. */
public final class FeedTest {
    private static final int[] BAD = {
        Integer.MIN_VALUE, -65, -1, 0, 9, 10, 30, 31, 127, 128, 255, 256 + 65, 65536 + 65, Integer.MAX_VALUE};

    public static void main(String[] args) {
        badCodes();
        fullBody();
        badCodeBeforeFull();
        appends();
        changesNothingElse();
        everyMode();
        Check.finish();
    }

    private static void badCodes() {
        Check.says("c outside 32..126 answers BAD_CHAR");
        SnippetSession x = new SnippetSession(8, 1);
        Check.setBody(x, "ab");
        for (int c : BAD) {
            Check.refused("feed(" + c + ")", x, () -> x.feed(c), SnippetSession.BAD_CHAR);
        }
    }

    private static void fullBody() {
        Check.says("the body already holds BODY_MAX codes answers FULL");
        SnippetSession x = new SnippetSession(8, 1);
        Check.setBody(x, "x".repeat(63));
        Check.is("the last place", x.feed('y'), SnippetSession.OK);
        Check.is("the last code", x.bodyCharAt(63), 'y');
        for (int c = 32; c <= 126; c++) {
            int code = c;
            Check.refused("feed(" + c + ") when full", x, () -> x.feed(code), SnippetSession.FULL);
        }
        x.clearSnippet();
        Check.is("feed after clearing", x.feed('z'), SnippetSession.OK);
    }

    private static void badCodeBeforeFull() {
        Check.says("`feed(c)` tests in order");
        SnippetSession x = new SnippetSession(8, 1);
        Check.setBody(x, "x".repeat(64));
        for (int c : BAD) {
            Check.refused("feed(" + c + ") when full", x, () -> x.feed(c), SnippetSession.BAD_CHAR);
        }
    }

    private static void appends() {
        Check.says("Otherwise c is appended to the body and the answer is OK.");
        for (int c = 32; c <= 126; c++) {
            SnippetSession x = new SnippetSession(8, 1);
            Check.is("feed(" + c + ")", x.feed(c), SnippetSession.OK);
            Check.is("the code fed", x.bodyCharAt(0), c);
            Check.is("the body's length", x.info(SnippetSession.INFO_BODY_LENGTH), 1);
        }
        SnippetSession x = new SnippetSession(8, 1);
        Check.setBody(x, "order kept");
        Check.same("the body", Check.body(x), "order kept");
    }

    private static void changesNothingElse() {
        Check.says("Nothing else changes: buffer, caret, selection, session, structure, history and merge"
                + " stay as they are.");
        for (String[] state : Twin.STATES) {
            for (int c : new int[] {' ', '$', 'a', '}', '~'}) {
                Twin.onlyBodyChangedBy("feed(" + c + ")", state, x -> x.feed(c));
            }
        }
    }

    private static void everyMode() {
        Check.says("feed is allowed in every mode, including during a session.");
        for (String[] state : Twin.STATES) {
            SnippetSession x = Twin.make(state);
            String body = Check.body(x);
            boolean full = body.length() == SnippetSession.BODY_MAX;
            Check.is(String.join(", ", state), x.feed('$'), full ? SnippetSession.FULL : SnippetSession.OK);
            Check.same("the body", Check.body(x), full ? body : body + "$");
        }
        SnippetSession x = Check.expanded("${1:a}");
        Check.setBody(x, "x".repeat(64));
        Check.refused("full in a session", x, () -> x.feed('x'), SnippetSession.FULL);
        Check.refused("a bad code in a session", x, () -> x.feed(31), SnippetSession.BAD_CHAR);
    }
}
