import java.util.function.IntUnaryOperator;

/** Calls told as short texts: "type abc", "code 31", "body $1", "feed 36", "caret 3", "back", ... */
final class Steps {
    private Steps() {
    }

    /** Takes one step; answers what its last call answered, and stops at a refused one. */
    static int take(SnippetSession x, String step) {
        int space = step.indexOf(' ');
        String name = space < 0 ? step : step.substring(0, space);
        String rest = space < 0 ? "" : step.substring(space + 1);
        switch (name) {
            case "type":
                return each(rest, x::typeChar);
            case "code":
                return x.typeChar(Integer.parseInt(rest));
            case "body":
                x.clearSnippet();
                return each(rest, x::feed);
            case "feed":
                return x.feed(Integer.parseInt(rest));
            case "clear":
                x.clearSnippet();
                return SnippetSession.OK;
            case "caret":
                return x.setCaret(Integer.parseInt(rest));
            case "expand":
                return x.expand();
            case "back":
                return x.backspace();
            case "next":
                return x.next();
            case "prev":
                return x.prev();
            case "escape":
                return x.escape();
            case "undo":
                return x.undo();
            default:
                throw new IllegalArgumentException(step);
        }
    }

    private static int each(String text, IntUnaryOperator call) {
        int answer = SnippetSession.OK;
        for (int i = 0; i < text.length() && answer == SnippetSession.OK; i++) {
            answer = call.applyAsInt(text.charAt(i));
        }
        return answer;
    }
}
