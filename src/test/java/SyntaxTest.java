/** "Body syntax": what each body renders to, as promise 4 uses it. */
public final class SyntaxTest {
    public static void main(String[] args) {
        escapes();
        digits();
        references();
        placeholders();
        transformedMirrors();
        otherCharacters();
        closingBrace();
        depth();
        occurrenceOrder();
        primariesAndMirrors();
        present();
        finalStop();
        addedFinalStop();
        emptyBody();
        longestBodies();
        Check.finish();
    }

    /** The body renders to the text, with this selection after it. */
    private static void renders(String body, String text, String selection) {
        SnippetSession x = Check.expanded(body);
        Check.same("text of " + body, Check.text(x), text);
        Check.same("selection of " + body, Check.selection(x), selection);
    }

    private static void escapes() {
        Check.says("`\\` then `$`, `\\` or `}`: a literal of that second character.");
        renders("\\$", "$", "1..1 -1 0");
        renders("\\\\", "\\", "1..1 -1 0");
        renders("\\}", "}", "1..1 -1 0");
        renders("\\$\\\\\\}", "$\\}", "3..3 -1 0");
        renders("\\$1", "$1", "2..2 -1 0");
        renders("\\${1:a\\}", "${1:a}", "6..6 -1 0");
        renders("\\\\$1", "\\", "1..1 1 1");
        renders("${1:a\\}b}", "a}b", "0..3 1 1");
        renders("${1:\\$\\\\:/}", "$\\:/", "0..4 1 1");
    }

    private static void digits() {
        Check.says("(d is a digit '0'..'9'; its value is the stop number)");
        for (int d = 0; d <= 9; d++) {
            SnippetSession x = Check.expanded("x$" + d + (d == 1 ? "$2" : "$1"));
            Check.same("stop " + d, Check.range(x, d), "1..1");
        }
    }

    private static void references() {
        Check.says("`$` d and `${` d `}`: a REFERENCE to stop d.");
        for (int d = 1; d <= 9; d++) {
            renders("a$" + d + "b", "ab", "1..1 " + d + " 1");
            renders("a${" + d + "}b", "ab", "1..1 " + d + " 1");
        }
        renders("a$0b", "ab", "1..1 -1 0");
        renders("a${0}b", "ab", "1..1 -1 0");
        renders("$12", "2", "0..0 1 1");
        renders("$00", "0", "0..0 -1 0");
        renders("$1:a", ":a", "0..0 1 1");
    }

    private static void placeholders() {
        Check.says("`${` d `:` items `}`: a PLACEHOLDER for stop d; the items (same rules) up to its matching `}`"
                + " are its default items.");
        for (int d = 1; d <= 9; d++) {
            renders("-${" + d + ":abc}-", "-abc-", "1..4 " + d + " 1");
        }
        renders("${1:}", "", "0..0 1 1");
        renders("${1::}", ":", "0..1 1 1");
        renders("${1:/u}", "/u", "0..2 1 1");
        renders("${1:a{b}", "a{b", "0..3 1 1");
        renders("${2:a${1:b}c}d", "abcd", "1..2 1 1");
        renders("${1:a${2:b}c}d", "abcd", "0..3 1 1");
        renders("${1:$2$3}", "", "0..0 1 1");
    }

    private static void transformedMirrors() {
        Check.says("`${` d `/` m `}`, m one of the letters u, l, c: a TRANSFORMED MIRROR of stop d with transform m.");
        for (int d = 1; d <= 9; d++) {
            String primary = "${" + d + ":aB}";
            renders(primary + "${" + d + "/u}", "aBAB", "0..2 " + d + " 1");
            renders(primary + "${" + d + "/l}", "aBab", "0..2 " + d + " 1");
            renders(primary + "${" + d + "/c}", "aBAB", "0..2 " + d + " 1");
            renders("$" + d + "${" + d + "/c}", "", "0..0 " + d + " 1");
        }
    }

    private static void otherCharacters() {
        Check.says("Every other character except `}` (so also `{`, `:`, `/`) is a literal");
        for (char c = 32; c <= 126; c++) {
            if (c != '$' && c != '\\' && c != '}') {
                renders("" + c, "" + c, "1..1 -1 0");
                renders("" + c + c, "" + c + c, "2..2 -1 0");
                renders("${1:" + c + "}" + c, "" + c + c, "0..1 1 1");
                renders("$1" + c, "" + c, "0..0 1 1");
            }
        }
    }

    private static void closingBrace() {
        Check.says("`}` closes the innermost open placeholder.");
        SnippetSession x = Check.expanded("${1:a${2:b}c}d");
        Check.same("the first ends stop 2", Check.range(x, 2), "1..2");
        Check.same("the second ends stop 1", Check.range(x, 1), "0..3");
        SnippetSession y = Check.expanded("${4:a${3:b${2:c${1:d}}}}e");
        Check.same("stop 1", Check.range(y, 1), "3..4");
        Check.same("stop 2", Check.range(y, 2), "2..4");
        Check.same("stop 3", Check.range(y, 3), "1..4");
        Check.same("stop 4", Check.range(y, 4), "0..4");
    }

    private static void depth() {
        Check.says("The DEPTH of an item is the number of placeholders enclosing it.");
        renders("${1:${2:${3:${4:d$5}}}}", "d", "0..1 1 1");
        renders("${1:a}${2:b}${3:c}${4:d}${5:e}${6:f}", "abcdef", "0..1 1 1");
        renders("${1:${2:${3:${4:}}}}${5:${6:${7:${8:x}}}}", "x", "0..0 1 1");
        renders("${1:a${2:b}}$2$0", "abb", "0..2 1 1");
    }

    private static void occurrenceOrder() {
        Check.says("occurrences are ordered by the place of their `$` in the body");
        SnippetSession x = Check.expanded("${2:x${1:ab}}-$1-$2");
        Check.same("text", Check.text(x), "xab-ab-xab");
        Check.same("the nested one is first", Check.range(x, 1), "1..3");
        SnippetSession y = Check.expanded("$1-${1}-$1");
        Check.play(y, "type q");
        Check.same("the first of equal ones", Check.range(y, 1), "0..1");
    }

    private static void primariesAndMirrors() {
        Check.says("For a stop in 1..9 its first occurrence is its PRIMARY (a placeholder, or a reference, which is"
                + " then a primary with no default items); each later occurrence is a MIRROR (a reference mirrors"
                + " with the identity transform).");
        for (int d = 1; d <= 9; d++) {
            SnippetSession x = Check.expanded("-$" + d + "-$" + d + "-${" + d + "}");
            Check.same("no default items", Check.range(x, d), "1..1");
            Check.play(x, "type aZ");
            Check.same("it and its mirrors", Check.text(x), "-aZ-aZ-aZ");
            Check.same("the first is the primary", Check.range(x, d), "1..3");
        }
        renders("${1:aZ}$1${1}", "aZaZaZ", "0..2 1 1");
    }

    private static void present() {
        Check.says("A stop is PRESENT if it has a primary.");
        SnippetSession x = Check.expanded("$2${5:a${7:b}}$2");
        for (int n = 1; n <= 9; n++) {
            boolean there = n == 2 || n == 5 || n == 7;
            Check.is("stop " + n, x.stopState(n), there ? SnippetSession.UNTOUCHED : SnippetSession.ABSENT);
        }
    }

    private static void finalStop() {
        Check.says("The reference to 0 is the FINAL stop");
        renders("$0abc", "abc", "0..0 -1 0");
        renders("ab${0}c", "abc", "2..2 -1 0");
        renders("abc$0", "abc", "3..3 -1 0");
        SnippetSession x = Check.expanded("${1:ab}$0$1");
        Check.same("beside stops", Check.range(x, 0), "2..2");
    }

    private static void addedFinalStop() {
        Check.says("if there is none, a final stop is added after all items (depth 0).");
        renders("abc", "abc", "3..3 -1 0");
        SnippetSession x = Check.expanded(64, 16, "xy", 1, "${1:ab}-$1");
        Check.same("after a mirror", Check.range(x, 0), "6..6");
        SnippetSession y = Check.expanded("${1:a${2:b}}");
        Check.same("after a placeholder, not in it", Check.range(y, 0), "2..2");
        Check.play(y, "type q");
        Check.is("it is never dead", y.stopState(0), SnippetSession.FINAL);
    }

    private static void emptyBody() {
        Check.says("An empty body is well formed");
        renders("", "", "0..0 -1 0");
    }

    private static void longestBodies() {
        Check.says("the body (0..BODY_MAX codes)");
        renders("x".repeat(64), "x".repeat(64), "64..64 -1 0");
        renders("\\}".repeat(32), "}".repeat(32), "32..32 -1 0");
        renders("$1".repeat(32), "", "0..0 1 1");
        renders("${1:" + "a".repeat(59) + "}", "a".repeat(59), "0..59 1 1");
        renders("x".repeat(58) + "$1${1}", "x".repeat(58), "58..58 1 1");
        renders("x".repeat(56) + "$1${1/u}", "x".repeat(56), "56..56 1 1");
        renders("x".repeat(60) + "${0}", "x".repeat(60), "60..60 -1 0");
    }
}
