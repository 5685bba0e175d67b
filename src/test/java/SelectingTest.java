/** "Selecting" and "Ending". */
public final class SelectingTest {
    public static void main(String[] args) {
        selectsADefault();
        selectsAnEmptyStop();
        selectsATypedText();
        selectsAtTheEdges();
        endsByNext();
        endsByEscape();
        keepsTheStructure();
        Check.finish();
    }

    private static final String SELECTING =
            "active stop = n, selected = true, selStart = start of n, caret = end of n.";

    private static void selectsADefault() {
        Check.says(SELECTING);
        SnippetSession x = Check.expanded(64, 16, "AB", 1, "-${1:abc}-${2:d}");
        Check.same("by expand", Check.selection(x), "2..5 1 1");
        Check.play(x, "next");
        Check.same("by next", Check.selection(x), "6..7 2 1");
        Check.play(x, "prev");
        Check.same("by prev", Check.selection(x), "2..5 1 1");
    }

    private static void selectsAnEmptyStop() {
        Check.says(SELECTING);
        SnippetSession x = Check.expanded(64, 16, "AB", 1, "-$1-${2:}");
        Check.same("selected all the same", Check.selection(x), "2..2 1 1");
        Check.play(x, "next");
        Check.same("by next", Check.selection(x), "3..3 2 1");
        Check.play(x, "prev");
        Check.same("by prev", Check.selection(x), "2..2 1 1");
    }

    private static void selectsATypedText() {
        Check.says(SELECTING);
        SnippetSession x = Check.expanded(64, 16, "AB", 1, "${1:a}${2:b}");
        Check.play(x, "type 12345678", "next", "prev");
        Check.same("a full text", Check.selection(x), "1..9 1 1");
        Check.play(x, "back", "next", "prev");
        Check.same("an emptied text", Check.selection(x), "1..1 1 1");
    }

    private static void selectsAtTheEdges() {
        Check.says(SELECTING);
        SnippetSession all = Check.expanded(8, 1, "", 0, "${1:abcdefgh}");
        Check.same("the whole full buffer", Check.selection(all), "0..8 1 1");
        SnippetSession start = Check.expanded(64, 1, "AB", 0, "${1:a}");
        Check.same("at its start", Check.selection(start), "0..1 1 1");
        SnippetSession end = Check.expanded(64, 1, "AB", 2, "${1:a}");
        Check.same("at its end", Check.selection(end), "2..3 1 1");
        SnippetSession nothing = Check.expanded(64, 1, "", 0, "${1:}");
        Check.same("an empty buffer", Check.selection(nothing), "0..0 1 1");
    }

    private static void endsByNext() {
        Check.says("the session becomes inactive (structure kept); caret and selStart are set as the call says.");
        SnippetSession x = Check.expanded(64, 16, "AB", 1, "${1:abc}$0.");
        Check.play(x, "next");
        Check.same("at the final stop", Check.selection(x), "4..4 -1 0");
        for (int n = 0; n <= 9; n++) {
            Check.is("stop " + n, x.stopState(n), SnippetSession.ABSENT);
        }
    }

    private static void endsByEscape() {
        Check.says("the session becomes inactive (structure kept); caret and selStart are set as the call says.");
        SnippetSession x = Check.expanded(64, 16, "AB", 1, "${1:abc}.$0");
        Check.play(x, "escape");
        Check.same("where the caret was", Check.selection(x), "4..4 -1 0");
        for (int n = 0; n <= 9; n++) {
            Check.is("stop " + n, x.stopState(n), SnippetSession.ABSENT);
        }
    }

    private static void keepsTheStructure() {
        Check.says("the session becomes inactive (structure kept)");
        for (String end : new String[] {"next", "escape"}) {
            SnippetSession x = Check.expanded(64, 16, "AB", 1, "${1:abc}-${1/u}");
            Check.play(x, "type q", end, "type zz", "undo", "undo");
            Check.same("an undo brings it back", Check.selection(x), "1..4 1 1");
            Check.play(x, "type rs");
            Check.same("with its structure", Check.text(x), "Ars-RSB");
        }
    }
}
