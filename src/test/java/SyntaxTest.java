/** The body syntax, as promise 4 uses it: what each body renders to, and what is malformed. */
public final class SyntaxTest {
    public static void main(String[] args) {
        rendersWellFormedBodies();
        refusesMalformedBodies();
        refusesEveryCutPlaceholder();
        Check.finish();
    }

    private static void rendersWellFormedBodies() {
        // body, text, selection
        String[][] bodies = {
            {"", "", "0..0 -1 0"},
            {"plain", "plain", "5..5 -1 0"},
            {"{:/u0 9%", "{:/u0 9%", "8..8 -1 0"},
            {"\\$\\\\\\}", "$\\}", "3..3 -1 0"},
            {"\\$1", "$1", "2..2 -1 0"},
            {"a$0b", "ab", "1..1 -1 0"},
            {"a${0}b", "ab", "1..1 -1 0"},
            {"$00", "0", "0..0 -1 0"},
            {"a$1b", "ab", "1..1 1 1"},
            {"a${1}b", "ab", "1..1 1 1"},
            {"$12", "2", "0..0 1 1"},
            {"$9", "", "0..0 9 1"},
            {"${1:}", "", "0..0 1 1"},
            {"${1:abc}", "abc", "0..3 1 1"},
            {"x${3:c}${2:b}${7:d}", "xcbd", "2..3 2 1"},
            {"${1:a{b}", "a{b", "0..3 1 1"},
            {"${1:a\\}b}", "a}b", "0..3 1 1"},
            {"${1:\\$\\\\:/}", "$\\:/", "0..4 1 1"},
            {"${2:a${1:b}c}", "abc", "1..2 1 1"},
            {"${1:a${2:b${3:c${4:d}}}}", "abcd", "0..4 1 1"},
            {"${1:${2:${3:${4:d$5}}}}", "d", "0..1 1 1"},
            {"${1:a}${2:b}${3:c}${4:d}${5:e}${6:f}", "abcdef", "0..1 1 1"},
            {"${1:ab}$1", "abab", "0..2 1 1"},
            {"${1:ab}${1}", "abab", "0..2 1 1"},
            {"$1$1${1/u}", "", "0..0 1 1"},
            {"${1:aB{z`}${1/u}", "aB{z`AB{Z`", "0..5 1 1"},
            {"${1:AbZ[@}${1/l}", "AbZ[@abz[@", "0..5 1 1"},
            {"${1:aba}${1/c}", "abaAba", "0..3 1 1"},
            {"${1:zz}${1/c}", "zzZz", "0..2 1 1"},
            {"${1:Aa}${1/c}", "AaAa", "0..2 1 1"},
            {"${1:1a}${1/c}", "1a1a", "0..2 1 1"},
            {"$1${1/c}x", "x", "0..0 1 1"},
            {"a$1${1/c}x", "ax", "1..1 1 1"},
            {"${1:a${2:b}}$2${1/u}$1", "abbABab", "0..2 1 1"},
            {"${1:a}$0$1", "aa", "0..1 1 1"},
        };
        for (String[] b : bodies) {
            SnippetSession x = Check.expanded(b[0]);
            Check.same("text of " + b[0], Check.text(x), b[1]);
            Check.same("selection of " + b[0], Check.selection(x), b[2]);
        }
    }

    private static void refusesMalformedBodies() {
        String[] bodies = {
            // an escape
            "\\", "a\\", "\\a", "\\{", "\\1", "\\:", "${1:\\", "${1:\\a}",
            // a lone dollar
            "$", "a$", "$a", "$$", "$}", "$ 1", "$:", "$/", "${1:$}",
            // no digit in the braces
            "${", "${}", "${a}", "${:a}", "${ 1}", "${$1}", "${/u}",
            // nothing good after the digit
            "${1", "${12}", "${1a}", "${1 }", "${1$", "${1{", "${0", "${1\\}",
            // transforms
            "$1${1/", "$1${1/}", "$1${1/x}", "$1${1/U}", "$1${1/u", "$1${1/uu}", "$1${1/u:", "$1${1/c ",
            "$1${1/L}", "$1${1/C}",
            // closing and the end
            "}", "a}", "${1:a}}", "${1:{a}}", "${1:", "${1:a", "${1:a${2:b}", "${1:a\\}", "$1}",
            // placeholders
            "${0:a}", "${0:}", "${1:a}${1:b}", "$1${1:a}", "${1:${1:a}}", "${1:$2}${2:a}", "$0${0:a}",
            "${1:${2:a}}${2:b}",
            "${1:${2:${3:${4:${5:}}}}}", "a${1:b${2:c${3:d${4:e${5:f}}}}}",
            // transformed mirrors without a stop
            "${0/u}", "$0${0/u}", "${1/u}", "${1/u}$1", "$2${1/l}",
            // mirrors inside placeholders
            "${1:$1}", "${1:${1}}", "${1:${1/u}}", "$1${2:$1}", "$1${2:${1}}", "$1${2:${1/c}}",
            "${1:$2$2}", "${1:$2${2/u}}", "${1:${2:a}$2}",
            // the final stop
            "${1:$0}", "${1:${0}}", "$0$0", "$0${0}", "${0}$0", "$0a${1:b}$0", "${1:${2:$0}}",
        };
        for (String body : bodies) {
            SnippetSession x = new SnippetSession(64, 16);
            Check.type(x, "ab");
            Check.setBody(x, body);
            Check.refused("expand of " + body, x, x::expand, SnippetSession.SYNTAX);
        }
    }

    private static void refusesEveryCutPlaceholder() {
        String body = "${1:a${2:b${3:c${4:d}}}}";
        for (int cut = 0; cut < body.length(); cut++) {
            SnippetSession x = new SnippetSession(64, 16);
            Check.setBody(x, body.substring(0, cut));
            Check.is("cut at " + cut, x.expand(), cut == 0 ? SnippetSession.OK : SnippetSession.SYNTAX);
        }
    }
}
