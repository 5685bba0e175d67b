import java.util.List;
import java.util.Set;
import java.util.TreeSet;

/** "State": the limits of what the object holds, and that a refused call changes nothing at all. */
public final class StateTest {
    private static final String[] CALLS = {
        "feed 31", "feed 127", "feed " + Integer.MIN_VALUE, "feed " + Integer.MAX_VALUE, "feed 65",
        "expand", "code 31", "code 127", "code " + Integer.MIN_VALUE, "code " + Integer.MAX_VALUE, "code 65",
        "back", "next", "prev", "escape", "caret -1", "caret 65", "caret 0", "caret " + Integer.MIN_VALUE,
        "caret " + Integer.MAX_VALUE, "undo"};

    /** Every refusal of the document: outside a session or in it, the call, its answer. */
    private static final List<String> REFUSALS = List.of(
            "out feed -2", "in feed -2", "out feed -3", "in feed -3",
            "in expand -1", "out expand -4", "out expand -3",
            "out code -2", "in code -2", "out code -3", "in code -3",
            "out back -5", "in back -5",
            "out next -1", "out prev -1", "in prev -7", "out escape -1",
            "in caret -1", "out caret -6", "out undo -5", "in undo -5");

    public static void main(String[] args) {
        bufferLimits();
        caretAndSelection();
        bodyLimits();
        historyLimits();
        keepsTheStructure();
        typedTextLimits();
        outsideASession();
        refusedCalls();
        Check.finish();
    }

    private static void bufferLimits() {
        Check.says("the buffer (length 0..capacity)");
        for (int capacity = 8; capacity <= 64; capacity++) {
            SnippetSession x = new SnippetSession(capacity, 2);
            Check.is("empty at first", Check.length(x), 0);
            Check.type(x, "a".repeat(capacity));
            Check.is("as long as the capacity", Check.length(x), capacity);
            Check.refused("no longer", x, () -> x.typeChar('a'), SnippetSession.FULL);
            for (int left = capacity - 1; left >= 0; left--) {
                Check.is("backspace", x.backspace(), SnippetSession.OK);
                Check.is("shorter", Check.length(x), left);
            }
            Check.refused("no shorter", x, x::backspace, SnippetSession.EMPTY);
        }
    }

    private static void caretAndSelection() {
        Check.says("with 0 <= selStart <= caret <= length");
        SnippetSession whole = Check.expanded("${1:abc}");
        Check.same("from 0 to the length", Check.selection(whole), "0..3 1 1");
        SnippetSession empty = Check.expanded("$1");
        Check.same("all are 0", Check.selection(empty), "0..0 1 1");
        SnippetSession last = Check.expanded(8, 1, "abcdefgh", 8, "$1");
        Check.same("all are the length", Check.selection(last), "8..8 1 1");
        for (String[] state : Twin.STATES) {
            SnippetSession x = Twin.make(state);
            int start = x.info(SnippetSession.INFO_SEL_START);
            boolean inOrder = 0 <= start && start <= Check.caret(x) && Check.caret(x) <= Check.length(x);
            Check.same(String.join(", ", state), inOrder, true);
        }
    }

    private static void bodyLimits() {
        Check.says("the body (0..BODY_MAX codes)");
        SnippetSession x = new SnippetSession(8, 1);
        for (int i = 0; i < 64; i++) {
            Check.is("length", x.info(SnippetSession.INFO_BODY_LENGTH), i);
            Check.is("feed", x.feed('b'), SnippetSession.OK);
        }
        Check.is("the greatest length", x.info(SnippetSession.INFO_BODY_LENGTH), SnippetSession.BODY_MAX);
        Check.refused("no more", x, () -> x.feed('b'), SnippetSession.FULL);
    }

    private static void historyLimits() {
        Check.says("the history (0..historyCap snapshots, most recent on top)");
        for (int cap = 1; cap <= 16; cap++) {
            SnippetSession x = new SnippetSession(64, cap);
            Check.type(x, "a".repeat(40));
            for (int groups = 2; groups <= 20; groups++) {
                x.backspace();
                Check.is("held after " + groups + " groups at " + cap, Check.undoDepth(x), groups < cap ? groups : cap);
            }
            Check.is("undo", x.undo(), SnippetSession.OK);
            Check.is("the most recent", Check.length(x), 22);
            Check.is("one less", Check.undoDepth(x), cap - 1);
        }
    }

    private static void keepsTheStructure() {
        Check.says("the STRUCTURE of the last successful expansion (kept until the next successful expansion)");
        SnippetSession x = Check.expanded(20, 16, "", 0, "${1:a}$1");
        Check.play(x, "type q", "escape", "body ${2:b", "feed 36");
        Check.is("a malformed one", x.expand(), SnippetSession.SYNTAX);
        Check.play(x, "body " + "b".repeat(19));
        Check.is("one that does not fit", x.expand(), SnippetSession.FULL);
        Check.play(x, "undo", "type rs");
        Check.same("the old structure", Check.text(x), "rsrs");
        Check.play(x, "escape", "body ${2:b}${2/u}", "expand", "type t");
        Check.same("the new structure", Check.text(x), "rstTrs");
        Check.is("stop 1 has gone", x.stopState(1), SnippetSession.ABSENT);
    }

    private static void typedTextLimits() {
        Check.says("a typed text of 0..STOP_MAX codes");
        for (int stop = 1; stop <= 9; stop++) {
            SnippetSession x = Check.expanded("<${" + stop + ":dd}>");
            Check.play(x, "back");
            Check.same("no code", Check.text(x), "<>");
            Check.is("typed all the same", x.stopState(stop), SnippetSession.TYPED);
            Check.type(x, "12345678");
            Check.same("eight codes", Check.text(x), "<12345678>");
            Check.refused("nine codes", x, () -> x.typeChar('9'), SnippetSession.FULL);
        }
    }

    private static void outsideASession() {
        Check.says("Outside a session selStart always equals caret.");
        for (String[] state : Twin.STATES) {
            for (String call : new String[] {"escape", "undo", "type q", "back", "next", "caret 0", "expand"}) {
                SnippetSession x = Twin.make(state);
                Steps.take(x, call);
                if (Check.active(x) == -1) {
                    Check.is(call + " after " + String.join(", ", state),
                            x.info(SnippetSession.INFO_SEL_START), Check.caret(x));
                }
            }
        }
    }

    private static void refusedCalls() {
        Check.says("A call answering a negative code is refused and changes nothing at all.");
        Set<String> met = new TreeSet<>();
        for (String[] state : Twin.STATES) {
            for (String call : CALLS) {
                SnippetSession x = Twin.make(state);
                String mode = Check.active(x) == -1 ? "out " : "in ";
                int answer = Steps.take(x, call);
                if (answer < 0) {
                    met.add(mode + call.split(" ")[0] + " " + answer);
                    Twin.unchangedBy(call, state, y -> Steps.take(y, call));
                }
            }
        }
        Check.same("the refusals met", met, new TreeSet<>(REFUSALS));
    }
}
