/** "Transforms" of a text, both of default items and of a typed text. */
public final class TransformTest {
    public static void main(String[] args) {
        upper();
        lower();
        capital();
        capitalOfEmpty();
        identity();
        Check.finish();
    }

    /** What the mirror shows of a text that is typed into its stop. */
    private static String ofTyped(String mirror, String text) {
        SnippetSession x = Check.expanded("$1" + mirror);
        Check.type(x, text);
        Check.same("the stop itself", Check.text(x).substring(0, text.length()), text);
        return Check.text(x).substring(text.length());
    }

    /** What the mirror shows of a text that is its stop's default. */
    private static String ofDefault(String mirror, String text) {
        String escaped = text.replace("\\", "\\\\").replace("$", "\\$").replace("}", "\\}");
        SnippetSession x = Check.expanded("${1:" + escaped + "}" + mirror);
        Check.same("the stop itself", Check.text(x).substring(0, text.length()), text);
        return Check.text(x).substring(text.length());
    }

    private static void shows(String mirror, String text, String due) {
        Check.same(mirror + " of typed " + text, ofTyped(mirror, text), due);
        Check.same(mirror + " of default " + text, ofDefault(mirror, text), due);
    }

    private static char upperOf(char c) {
        return c >= 'a' && c <= 'z' ? (char) (c - 32) : c;
    }

    private static char lowerOf(char c) {
        return c >= 'A' && c <= 'Z' ? (char) (c + 32) : c;
    }

    private static void upper() {
        Check.says("u maps each of 'a'..'z' to upper case");
        for (char c = 32; c <= 126; c++) {
            shows("${1/u}", "" + c, "" + upperOf(c));
            shows("${1/u}", "x" + c + "y" + c, "X" + upperOf(c) + "Y" + upperOf(c));
        }
        shows("${1/u}", "`az{@AZ[", "`AZ{@AZ[");
    }

    private static void lower() {
        Check.says("l maps each of 'A'..'Z' to lower case");
        for (char c = 32; c <= 126; c++) {
            shows("${1/l}", "" + c, "" + lowerOf(c));
            shows("${1/l}", "X" + c + "Y" + c, "x" + lowerOf(c) + "y" + lowerOf(c));
        }
        shows("${1/l}", "@AZ[`az{", "@az[`az{");
    }

    private static void capital() {
        Check.says("c maps the first character to upper case if it is in 'a'..'z', the rest unchanged");
        for (char c = 32; c <= 126; c++) {
            shows("${1/c}", "" + c, "" + upperOf(c));
            shows("${1/c}", "" + c + c + "aZz", "" + upperOf(c) + c + "aZz");
        }
        shows("${1/c}", " ab", " ab");
        shows("${1/c}", "{az", "{az");
        shows("${1/c}", "`az", "`az");
    }

    private static void capitalOfEmpty() {
        Check.says("c maps the first character to upper case if it is in 'a'..'z', the rest unchanged");
        SnippetSession x = Check.expanded(64, 16, "ab", 1, "$1${1/c}cd");
        Check.same("an empty text has no first character", Check.text(x), "acdb");
        Check.play(x, "type q", "back");
        Check.same("nor has a text emptied", Check.text(x), "acdb");
        SnippetSession y = Check.expanded(64, 16, "a", 0, "$1${1/c}${1/u}${1/l}");
        Check.same("nothing else is taken for it", Check.text(y), "a");
        SnippetSession z = Check.expanded("$1${1/c}");
        Check.same("nor at the end of the buffer", Check.text(z), "");
        SnippetSession full = Check.expanded(64, 16, "a".repeat(64), 64, "$1${1/c}");
        Check.same("nor at the end of a full one", Check.text(full), "a".repeat(64));
    }

    private static void identity() {
        Check.says("identity keeps all.");
        for (char c = 32; c <= 126; c++) {
            shows("$1", "" + c, "" + c);
            shows("${1}", "aZ" + c, "aZ" + c);
        }
    }
}
