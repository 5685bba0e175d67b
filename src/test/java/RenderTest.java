/** "Render" and "Buffer during a session". */
public final class RenderTest {
    public static void main(String[] args) {
        literals();
        finalIsEmpty();
        typedText();
        typedEmptyText();
        defaultItems();
        mirrors();
        mirrorsOfNestedStops();
        onlyDepthZero();
        equationAtEachCaret();
        bufferFollows();
        positions();
        ranges();
        finalPosition();
        Check.finish();
    }

    private static void literals() {
        Check.says("text(literal) = its character");
        SnippetSession x = Check.expanded(" ~{:/\\}\\$\\\\");
        Check.same("text", Check.text(x), " ~{:/}$\\");
    }

    private static void finalIsEmpty() {
        Check.says("text(final) = empty");
        SnippetSession x = Check.expanded("a$0${1:b}");
        Check.same("text", Check.text(x), "ab");
        SnippetSession y = Check.expanded("$0");
        Check.is("alone", Check.length(y), 0);
    }

    private static void typedText() {
        Check.says("text(primary of n) = the typed text of n if the typed flag of n is set");
        SnippetSession x = Check.expanded("<${1:default${2:x}}>");
        Check.play(x, "type q");
        Check.same("shorter than the default", Check.text(x), "<q>");
        Check.play(x, "type rstuvwx");
        Check.same("as long as can be", Check.text(x), "<qrstuvwx>");
    }

    private static void typedEmptyText() {
        Check.says("text(primary of n) = the typed text of n if the typed flag of n is set");
        SnippetSession x = Check.expanded("<${1:default}|$1>");
        Check.play(x, "back");
        Check.same("a typed empty text is not the default", Check.text(x), "<|>");
        Check.play(x, "type a", "back");
        Check.same("nor after typing", Check.text(x), "<|>");
        Check.play(x, "next");
        Check.same("nor after the session", Check.text(x), "<|>");
    }

    private static void defaultItems() {
        Check.says("else the texts of its default items joined in order");
        SnippetSession x = Check.expanded("${1:a${2:b${3:c}d}e$4f}");
        Check.same("all", Check.text(x), "abcdef");
        Check.play(x, "next", "next", "type XY");
        Check.same("a typed one among them", Check.text(x), "abXYdef");
        Check.play(x, "next", "type Z");
        Check.same("two typed ones", Check.text(x), "abXYdeZf");
        SnippetSession none = Check.expanded("<${1:}${2:${3:}}$4>");
        Check.same("no items at all", Check.text(none), "<>");
    }

    private static void mirrors() {
        Check.says("text(mirror of n with transform t) = t(text(primary of n))");
        SnippetSession x = Check.expanded("${1:aB}|$1|${1}|${1/u}|${1/l}|${1/c}");
        Check.same("of the default", Check.text(x), "aB|aB|aB|AB|ab|AB");
        Check.play(x, "type xY");
        Check.same("of a typed text", Check.text(x), "xY|xY|xY|XY|xy|XY");
        Check.play(x, "back", "back");
        Check.same("of an empty text", Check.text(x), "|||||");
    }

    private static void mirrorsOfNestedStops() {
        Check.says("text(mirror of n with transform t) = t(text(primary of n))");
        SnippetSession x = Check.expanded("${1:a${2:b${3:c}}}|${1/u}|${2/u}|${3/u}");
        Check.same("of the defaults", Check.text(x), "abc|ABC|BC|C");
        Check.play(x, "next", "next", "type z");
        Check.same("the innermost typed", Check.text(x), "abz|ABZ|BZ|Z");
        Check.play(x, "prev", "type y");
        Check.same("the middle one typed, too", Check.text(x), "ay|AY|Y|Z");
        Check.play(x, "prev", "type x");
        Check.same("the outermost typed, too", Check.text(x), "x|X|Y|Z");
    }

    private static void onlyDepthZero() {
        Check.says("R = the texts of all depth-0 items joined in order.");
        SnippetSession x = Check.expanded("1${1:2${2:3}4}5$0${1/u}6$2");
        Check.same("each nested item shows once, in its placeholder", Check.text(x), "12345" + "234" + "6" + "3");
    }

    private static void equationAtEachCaret() {
        Check.says("While a session is active, buffer = B[0..p) + R + B[p..L)");
        String base = "ABCD";
        for (int length = 0; length <= 4; length++) {
            for (int p = 0; p <= length; p++) {
                String b = base.substring(0, length);
                SnippetSession x = Check.expanded(64, 16, b, p, "${1:x${2:y}}-$2$0");
                Check.same("expanded", Check.text(x), b.substring(0, p) + "xy-y" + b.substring(p));
                Check.play(x, "next", "type pqr");
                Check.same("longer", Check.text(x), b.substring(0, p) + "xpqr-pqr" + b.substring(p));
                Check.play(x, "prev", "back");
                Check.same("shorter", Check.text(x), b.substring(0, p) + "-pqr" + b.substring(p));
                Check.same("caret", Check.selection(x), p + ".." + p + " 1 0");
                Check.same("final", Check.range(x, 0), (p + 4) + ".." + (p + 4));
            }
        }
    }

    private static void bufferFollows() {
        Check.says("Calls in a session change flags and texts; the buffer follows this equation.");
        SnippetSession x = Check.expanded(8, 16, "ABCD", 2, "$1$1");
        Check.play(x, "type a", "type b");
        Check.same("full", Check.text(x), "ABababCD");
        Check.play(x, "back");
        Check.same("shorter", Check.text(x), "ABaaCD");
        Check.play(x, "back");
        Check.same("only B is left", Check.text(x), "ABCD");
        Check.play(x, "type cd", "undo", "undo", "undo", "undo");
        Check.same("undone", Check.text(x), "ABCD");
    }

    private static void positions() {
        Check.says("The POSITION of an item = p + the number of characters of R before it.");
        SnippetSession x = Check.expanded(64, 16, "AB", 1, "$1${2:b}$1${3:c}${2/u}$4");
        Check.same("the first item", Check.range(x, 1), "1..1");
        Check.same("behind an empty stop", Check.range(x, 2), "1..2");
        Check.same("behind an empty mirror", Check.range(x, 3), "2..3");
        Check.same("behind a mirror", Check.range(x, 4), "4..4");
        Check.play(x, "type xyz");
        Check.same("moved once", Check.range(x, 2), "4..5");
        Check.same("moved twice", Check.range(x, 3), "8..9");
        Check.same("moved twice, too", Check.range(x, 4), "10..10");
    }

    private static void ranges() {
        Check.says("start = position of its primary, end = start + length of text(primary of n)");
        SnippetSession x = Check.expanded("${1:ab${2:cd}}${3:}$4");
        Check.same("1", Check.range(x, 1), "0..4");
        Check.same("2", Check.range(x, 2), "2..4");
        Check.same("3, empty", Check.range(x, 3), "4..4");
        Check.same("4, empty", Check.range(x, 4), "4..4");
        Check.play(x, "next", "back");
        Check.same("1, shorter by what is in it", Check.range(x, 1), "0..2");
        Check.same("2, emptied", Check.range(x, 2), "2..2");
    }

    private static void finalPosition() {
        Check.says("The final position = position of the final stop.");
        SnippetSession before = Check.expanded(64, 16, "AB", 1, "$0${1:ab}");
        Check.play(before, "type xyz");
        Check.same("before the stop", Check.range(before, 0), "1..1");
        SnippetSession behind = Check.expanded(64, 16, "AB", 1, "${1:ab}$0$1");
        Check.play(behind, "type xyz");
        Check.same("behind the stop", Check.range(behind, 0), "4..4");
        SnippetSession last = Check.expanded(64, 16, "AB", 1, "${1:ab}$1");
        Check.play(last, "type xyz");
        Check.same("after all", Check.range(last, 0), "7..7");
    }
}
