import java.util.function.IntSupplier;

/** What the tests share: comparing answers, feeding bodies, and seeing a session whole. */
final class Check {
    private static int wrong = 0;
    private static String sentence = "";

    private Check() {
    }

    /** The words of the document that the checks after it are about; a failure tells them. */
    static void says(String words) {
        sentence = "\"" + words + "\": ";
    }

    static void same(String what, Object got, Object want) {
        if (!want.equals(got)) {
            wrong++;
            System.out.println(sentence + what + ": got " + got + ", due is " + want);
        }
    }

    static void is(String what, int got, int want) {
        same(what, got, want);
    }

    /** Ends the test: with exit code 1 if an answer was wrong. */
    static void finish() {
        if (wrong != 0) {
            System.out.println(wrong + " answers are not as due");
            System.exit(1);
        }
    }

    static void setBody(SnippetSession x, String body) {
        x.clearSnippet();
        for (int i = 0; i < body.length(); i++) {
            is("feed of \"" + body + "\" at " + i, x.feed(body.charAt(i)), SnippetSession.OK);
        }
    }

    /** Makes calls, told as Steps tells them, that must all answer OK. */
    static void play(SnippetSession x, String... steps) {
        for (String step : steps) {
            is("\"" + step + "\"", Steps.take(x, step), SnippetSession.OK);
        }
    }

    static void type(SnippetSession x, String text) {
        for (int i = 0; i < text.length(); i++) {
            is("typeChar of \"" + text + "\" at " + i, x.typeChar(text.charAt(i)), SnippetSession.OK);
        }
    }

    /** A roomy session with the body expanded in an empty buffer. */
    static SnippetSession expanded(String body) {
        return expanded(64, 16, "", 0, body);
    }

    static SnippetSession expanded(int capacity, int historyCap, String before, int caret, String body) {
        SnippetSession x = new SnippetSession(capacity, historyCap);
        type(x, before);
        is("setCaret(" + caret + ")", x.setCaret(caret), SnippetSession.OK);
        setBody(x, body);
        is("expand of \"" + body + "\"", x.expand(), SnippetSession.OK);
        return x;
    }

    static String text(SnippetSession x) {
        StringBuilder text = new StringBuilder();
        for (int i = 0; i < x.info(SnippetSession.INFO_LENGTH); i++) {
            text.append((char) x.charAt(i));
        }
        return text.toString();
    }

    static String body(SnippetSession x) {
        StringBuilder body = new StringBuilder();
        for (int i = 0; i < x.info(SnippetSession.INFO_BODY_LENGTH); i++) {
            body.append((char) x.bodyCharAt(i));
        }
        return body.toString();
    }

    static int caret(SnippetSession x) {
        return x.info(SnippetSession.INFO_CARET);
    }

    static int active(SnippetSession x) {
        return x.info(SnippetSession.INFO_ACTIVE);
    }

    static int length(SnippetSession x) {
        return x.info(SnippetSession.INFO_LENGTH);
    }

    static int undoDepth(SnippetSession x) {
        return x.info(SnippetSession.INFO_UNDO_DEPTH);
    }

    static int merge(SnippetSession x) {
        return x.info(SnippetSession.INFO_MERGE);
    }

    /** Selection start, caret, active stop and selected flag, as "start..caret stop selected". */
    static String selection(SnippetSession x) {
        return x.info(SnippetSession.INFO_SEL_START) + ".." + x.info(SnippetSession.INFO_CARET)
                + " " + x.info(SnippetSession.INFO_ACTIVE) + " " + x.info(SnippetSession.INFO_SELECTED);
    }

    /** The range of a stop, as "start..end". */
    static String range(SnippetSession x, int stop) {
        return x.stopPos(stop, 0) + ".." + x.stopPos(stop, 1);
    }

    /** Everything that the getters tell. */
    static String whole(SnippetSession x) {
        StringBuilder all = new StringBuilder();
        all.append('"').append(text(x)).append("\" body \"").append(body(x)).append("\" info");
        for (int key = 0; key <= 9; key++) {
            all.append(' ').append(x.info(key));
        }
        return all.append(stops(x)).toString();
    }

    /** Everything that the getters tell, but for the body and its length. */
    static String wholeButBody(SnippetSession x) {
        StringBuilder all = new StringBuilder();
        all.append('"').append(text(x)).append("\" info");
        for (int key = 0; key <= 9; key++) {
            all.append(' ').append(key == SnippetSession.INFO_BODY_LENGTH ? "_" : x.info(key));
        }
        return all.append(stops(x)).toString();
    }

    private static String stops(SnippetSession x) {
        StringBuilder all = new StringBuilder(" stops");
        for (int n = 0; n <= 9; n++) {
            all.append(' ').append(x.stopState(n)).append('@').append(range(x, n));
        }
        return all.toString();
    }

    /** A refused call: its answer, and that no getter tells a change. */
    static void refused(String what, SnippetSession x, IntSupplier call, int answer) {
        String before = whole(x);
        is(what, call.getAsInt(), answer);
        same(what + " changes nothing", whole(x), before);
    }
}
