/** "The body is malformed (SYNTAX) on any of these": a test for each row of the list. */
public final class MalformedTest {
    public static void main(String[] args) {
        escapes();
        dollars();
        braces();
        digits();
        transforms();
        closing();
        theEnd();
        placeholders();
        tooDeep();
        mirrorsOfNothing();
        mirrorsInside();
        finalStops();
        cutBodies();
        lastPlaces();
        Check.finish();
    }

    private static void malformed(String... bodies) {
        for (String body : bodies) {
            SnippetSession x = new SnippetSession(64, 16);
            Check.type(x, "ab");
            Check.setBody(x, body);
            Check.refused("expand of " + body, x, x::expand, SnippetSession.SYNTAX);
        }
    }

    private static void wellFormed(String... bodies) {
        for (String body : bodies) {
            SnippetSession x = new SnippetSession(64, 16);
            Check.setBody(x, body);
            Check.is("expand of " + body, x.expand(), SnippetSession.OK);
        }
    }

    /** The body's start with each code behind it that is not among the good ones, alone and in between. */
    private static void malformedBefore(String start, String good, String rest) {
        for (char c = 32; c <= 126; c++) {
            if (good.indexOf(c) < 0) {
                malformed(start + c, start + c + rest, "x" + start + c + rest + "x", "${9:" + start + c + rest + "}");
            }
        }
    }

    private static void escapes() {
        Check.says("`\\` followed by any other character or by the end");
        malformedBefore("\\", "$\\}", "");
        malformed("\\", "a\\", "\\\\\\", "$1\\", "${1:\\", "${1:\\a}", "${1:a\\}", "x".repeat(63) + "\\");
        wellFormed("\\$", "\\\\", "\\}", "${1:\\}}");
    }

    private static void dollars() {
        Check.says("`$` followed by the end or by anything but a digit or `{`");
        malformedBefore("$", "0123456789{", "1");
        malformed("$", "a$", "$1$", "${1:$}", "${1:a}$", "\\$$", "x".repeat(63) + "$");
        wellFormed("$0", "$1", "$9", "${1}");
    }

    private static void braces() {
        Check.says("`${` followed by the end or not followed by a digit");
        malformedBefore("${", "0123456789", "}");
        malformed("${", "a${", "$1${", "${1:${", "${1:${}}", "x".repeat(62) + "${");
        wellFormed("${0}", "${1}", "${9}");
    }

    private static void digits() {
        Check.says("`${` d followed by the end or by anything but `}`, `:` or `/`");
        for (int d = 0; d <= 9; d++) {
            malformedBefore("${" + d, "}:/", "}");
            malformed("${" + d, "a${" + d, "${" + d + d + "}", "x".repeat(61) + "${" + d);
        }
        wellFormed("${1}", "${1:}", "$1${1/u}");
    }

    private static void transforms() {
        Check.says("`${` d `/` followed by the end or not followed by one of u, l, c and then `}`");
        malformedBefore("$1${1/", "ulc", "}");
        for (char m : new char[] {'u', 'l', 'c'}) {
            malformedBefore("$1${1/" + m, "}", "}");
            malformed("$1${1/" + m, "${1:a}${1/" + m, "$1" + "x".repeat(57) + "${1/" + m);
            wellFormed("$1${1/" + m + "}");
        }
        malformed("$1${1/", "$1${1/}", "$1${1/uu}", "$1${1/ul}", "$1${1/U}", "$1${1/L}", "$1${1/C}", "$1${1//u}",
                "$1" + "x".repeat(58) + "${1/");
    }

    private static void closing() {
        Check.says("`}` while no placeholder is open");
        malformed("}", "a}", "}a", "${1:a}}", "${1:{a}}", "$1}", "${1}}", "$1${1/u}}", "\\\\}", "${1:a}}${2:b}",
                "${1:${2:a}}}", "x".repeat(63) + "}");
        wellFormed("\\}", "{", "{\\}");
    }

    private static void theEnd() {
        Check.says("the end while one is open");
        malformed("${1:", "${1:a", "${1:a${2:b}", "${1:a\\}", "${1:${2:}", "${1:a}${2:", "${1:$2", "${1:${2}",
                "${1:" + "a".repeat(60));
        wellFormed("${1:}", "${1:a${2:b}}", "${1:" + "a".repeat(59) + "}");
    }

    private static void placeholders() {
        Check.says("a placeholder for stop 0 or for a stop that already occurred");
        malformed("${0:a}", "${0:}", "$0${0:a}", "${1:${0:a}}");
        for (int d = 1; d <= 9; d++) {
            String again = "${" + d + ":b}";
            malformed("${" + d + ":a}" + again, "$" + d + again, "${" + d + "}" + again, "${" + d + ":" + again + "}");
        }
        malformed("${1:$2}${2:a}", "${1:${2:a}}${2:b}", "${1:${2:${1:a}}}", "$1$1${1:a}", "$1${1/u}${1:a}",
                "$1${2:${1:a}}");
        wellFormed("${1:a}${2:b}", "${1:${2:a}}", "$2${1:a}");
    }

    private static void tooDeep() {
        Check.says("a placeholder opened while DEPTH_MAX placeholders are open");
        malformed("${1:${2:${3:${4:${5:}}}}}", "a${1:b${2:c${3:d${4:e${5:f}}}}}", "${9:${8:${7:${6:x${5:}}}}}",
                "${1:${2:${3:${4:}${5:${6:}}}}}", "${1:${2:${3:${4:${5:${6:}}}}}}");
        wellFormed("${1:${2:${3:${4:}}}}", "${1:${2:${3:${4:$5}}}}", "${1:${2:${3:${4:${5}}}}}",
                "${1:${2:${3:${4:}${5:}}${6:}}${7:}}${8:}");
    }

    private static void mirrorsOfNothing() {
        Check.says("a transformed mirror of stop 0 or of a stop with no earlier occurrence");
        for (String m : new String[] {"u", "l", "c"}) {
            malformed("${0/" + m + "}", "$0${0/" + m + "}", "${0/" + m + "}$0");
            for (int d = 1; d <= 9; d++) {
                int other = d % 9 + 1;
                String mirror = "${" + d + "/" + m + "}";
                malformed(mirror, mirror + "$" + d, "$" + other + mirror, "$0" + mirror);
                wellFormed("$" + d + mirror);
            }
        }
    }

    private static void mirrorsInside() {
        Check.says("any mirror at depth > 0");
        malformed("${1:$1}", "${1:${1}}", "${1:${1/u}}", "$1${2:$1}", "$1${2:${1}}", "$1${2:${1/c}}",
                "${1:$2$2}", "${1:$2${2}}", "${1:$2${2/u}}", "${1:${2:a}$2}", "${1:${2:a}${2/l}}", "${1:${2:$1}}",
                "$1${2:${3:${4:${5:$1}}}}", "${1:a}${2:b$1}");
        wellFormed("${1:$2}$2", "$1${2:a}$1", "${1:${2:a}}$2${2/l}");
    }

    private static void finalStops() {
        Check.says("a reference to 0 at depth > 0 or when 0 already occurred");
        malformed("${1:$0}", "${1:${0}}", "${1:${2:$0}}", "${1:a$0b}", "$0${1:$0}",
                "$0$0", "$0${0}", "${0}$0", "${0}${0}", "$0a${1:b}$0");
        wellFormed("$0", "${0}", "${1:a}$0", "$0${1:a}");
    }

    private static void cutBodies() {
        Check.says("the end while one is open");
        String body = "${1:a${2:b${3:c${4:d}}}}";
        for (int cut = 1; cut < body.length(); cut++) {
            malformed(body.substring(0, cut));
        }
        wellFormed(body);
    }

    private static void lastPlaces() {
        Check.says("The body is malformed (SYNTAX) on any of these");
        // Codes left behind by a longer body must not be read as part of a shorter one.
        String[][] longAndCut = {{"\\$", "\\"}, {"$1", "$"}, {"${1}", "${1"}, {"${1}", "${"}, {"$1${1/u}", "$1${1/u"},
            {"$1${1/u}", "$1${1/"}, {"$1${1/u}", "$1${1"}, {"${1:a}", "${1:a"}};
        for (String[] pair : longAndCut) {
            SnippetSession x = new SnippetSession(64, 16);
            Check.setBody(x, pair[0]);
            Check.setBody(x, pair[1]);
            Check.refused(pair[1] + " after " + pair[0], x, x::expand, SnippetSession.SYNTAX);
        }
    }
}
