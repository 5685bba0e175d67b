import java.util.function.Consumer;
import java.util.function.Function;

/**
 * Two objects brought to the same state; something is done to one of them, and then both must go on
 * alike. So it shows, too, what no getter tells: structure, snapshots and texts of dead stops.
 */
final class Twin {
    /** Each state: capacity, history cap, then the steps that lead to it. */
    static final String[][] STATES = {
        {"8", "1"},
        {"8", "3", "type ab"},
        {"8", "3", "type abcdefgh"},
        {"8", "3", "type abcdefgh", "caret 3"},
        {"20", "4", "type abc", "caret 0"},
        {"20", "4", "type abc", "caret 2", "back"},
        {"20", "2", "type abcdef", "back", "back", "back"},
        {"64", "16", "type ab", "undo"},
        {"64", "16", "body " + "x".repeat(64)},
        {"8", "4", "type abc", "body 123456"},
        {"8", "4", "type abc", "body ${1:x}${2:$"},
        {"20", "4", "type ab", "caret 1", "body <$0>", "expand"},
        {"20", "4", "type ab", "caret 1", "body <$0>", "expand", "type q"},
        {"40", "16", "type ab", "caret 1", "body ${1:m}|${2:n}|${1/u}", "expand"},
        {"40", "16", "type ab", "caret 1", "body ${1:m}|${2:n}|${1/u}", "expand", "type qr"},
        {"40", "16", "type ab", "caret 1", "body ${1:m}|${2:n}|${1/u}", "expand", "type 12345678"},
        {"40", "16", "type ab", "caret 1", "body ${1:m}|${2:n}|${1/u}", "expand", "back"},
        {"40", "16", "type ab", "caret 1", "body ${1:m}|${2:n}|${1/u}", "expand", "type qr", "next", "type s"},
        {"40", "2", "type ab", "caret 1", "body ${1:m}|${2:n}|${1/u}", "expand", "type q", "next", "type s", "back"},
        {"40", "16", "type ab", "body ${1:m}|${2:n}|${1/u}", "expand", "type qr", "next", "type s", "escape"},
        {"40", "16", "type ab", "body ${1:m}|$0|${1/u}", "expand", "type qr", "next", "type s", "body ${3:z}$3$"},
        {"40", "16", "type ab", "body ${1:m}|$0|${1/u}", "expand", "type qr", "next", "body " + "y".repeat(64)},
        {"40", "16", "type ab", "body ${1:m}|$0|${1/u}", "expand", "type qr", "escape", "back", "undo", "undo"},
        {"40", "16", "body ${1:a${2:b${3:c}}}.$2$3", "expand", "next", "next", "type q", "prev", "prev", "type z"},
        {"40", "16", "body ${2:a${1:b}}.$1", "expand", "type q", "next", "type z"},
        {"40", "1", "body ${1:a}$1", "expand", "type q", "undo"},
        {"40", "8", "body ${1:a}$1", "expand", "type q", "undo", "undo"},
        {"8", "8", "type abcd", "body $1xy$1", "expand", "type z"},
        {"8", "8", "type abcdef", "body $1$1$1", "expand"},
        {"40", "8", "body ${1:a}$1", "expand", "type q", "body }"},
        {"40", "8", "body ${1:a}$1", "expand", "type q", "body " + "w".repeat(64)},
    };

    private static final String[][] WAYS_ON = {
        {"type q", "type r", "undo", "undo", "undo"},
        {"undo", "undo", "undo", "undo", "undo", "undo", "undo", "undo"},
        {"back", "back", "type s", "undo", "undo", "undo", "type t", "next", "type u"},
        {"next", "type v", "prev", "type w", "prev", "back", "next", "next", "type x", "undo", "undo", "undo"},
        {"prev", "type y", "next", "back", "next", "next", "caret 0", "type z", "undo", "undo", "undo", "undo"},
        {"escape", "caret 1", "type k", "undo", "undo", "type l", "next", "type m", "escape"},
        {"escape", "body ${1:a}${2:b}$1", "expand", "type n", "next", "type o", "undo", "undo", "undo"},
        {"undo", "type d", "next", "type e", "next", "type f", "undo", "undo", "undo", "undo"},
    };

    /** Apart from the others, since it depends on the body. */
    private static final String[] EXPANDING = {"expand", "type g", "next", "type h", "undo", "undo", "undo"};

    private Twin() {
    }

    static SnippetSession make(String[] state) {
        SnippetSession x = new SnippetSession(Integer.parseInt(state[0]), Integer.parseInt(state[1]));
        for (int i = 2; i < state.length; i++) {
            Check.is("\"" + state[i] + "\" on the way", Steps.take(x, state[i]), SnippetSession.OK);
        }
        return x;
    }

    /** What is done leaves everything as it was. */
    static void unchangedBy(String what, String[] state, Consumer<SnippetSession> deed) {
        for (String[] way : WAYS_ON) {
            goOnAlike(what, state, deed, way, Check::whole);
        }
        goOnAlike(what, state, deed, EXPANDING, Check::whole);
    }

    /** What is done leaves everything as it was but the body. */
    static void onlyBodyChangedBy(String what, String[] state, Consumer<SnippetSession> deed) {
        for (String[] way : WAYS_ON) {
            goOnAlike(what, state, deed, way, Check::wholeButBody);
        }
    }

    private static void goOnAlike(String what, String[] state, Consumer<SnippetSession> deed, String[] way,
            Function<SnippetSession, String> seen) {
        SnippetSession changed = make(state);
        SnippetSession kept = make(state);
        deed.accept(changed);
        String after = what + " in " + String.join(", ", state);
        Check.same(after, seen.apply(changed), seen.apply(kept));
        for (String step : way) {
            after = after + ", then " + step;
            Check.is(after + " answers", Steps.take(changed, step), Steps.take(kept, step));
            Check.same(after, seen.apply(changed), seen.apply(kept));
        }
    }
}
