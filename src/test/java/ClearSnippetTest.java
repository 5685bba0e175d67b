/** Promise 3. */
public final class ClearSnippetTest {
    public static void main(String[] args) {
        emptiesTheBody();
        emptiesAnEmptyBody();
        emptiesAFullBody();
        changesNothingElse();
        Check.finish();
    }

    private static void emptiesTheBody() {
        Check.says("`clearSnippet()` empties the body.");
        for (String[] state : Twin.STATES) {
            SnippetSession x = Twin.make(state);
            x.clearSnippet();
            Check.is("length", x.info(SnippetSession.INFO_BODY_LENGTH), 0);
            Check.is("first code", x.bodyCharAt(0), -1);
            Check.setBody(x, "d");
            Check.same("the new body alone", Check.body(x), "d");
        }
    }

    private static void emptiesAnEmptyBody() {
        Check.says("`clearSnippet()` empties the body.");
        SnippetSession x = new SnippetSession(20, 4);
        x.clearSnippet();
        x.clearSnippet();
        Check.is("it stays empty", x.info(SnippetSession.INFO_BODY_LENGTH), 0);
        Check.is("it can be expanded", x.expand(), SnippetSession.OK);
    }

    private static void emptiesAFullBody() {
        Check.says("`clearSnippet()` empties the body.");
        SnippetSession x = new SnippetSession(64, 4);
        Check.setBody(x, "x".repeat(64));
        x.clearSnippet();
        Check.is("length", x.info(SnippetSession.INFO_BODY_LENGTH), 0);
        for (int i = 0; i < 64; i++) {
            Check.is("no code left at " + i, x.bodyCharAt(i), -1);
        }
        Check.setBody(x, "y".repeat(64));
        Check.same("all its room is there again", Check.body(x), "y".repeat(64));
    }

    private static void changesNothingElse() {
        Check.says("Nothing else changes: the structure, the session, the buffer, caret, selection, history"
                + " and merge are untouched.");
        for (String[] state : Twin.STATES) {
            Twin.onlyBodyChangedBy("clearSnippet()", state, SnippetSession::clearSnippet);
        }
    }
}
