/** Promise 4. */
public final class ExpandTest {
    public static void main(String[] args) {
        expandsAtTheCaret();
        emptiesTheHistory();
        opensNoSessionWithoutStops();
        acceptsAnEmptyBody();
        refusesInASession();
        testsSyntaxBeforeRoom();
        fillsTheCapacity();
        countsMirrorsAgainstTheCapacity();
        takesTheLongestBodies();
        clearsWhatWasTyped();
        keepsTheStructureWhenRefused();
        forgetsARefusedBody();
        undoesToTheBuffer();
        Check.finish();
    }

    private static void expandsAtTheCaret() {
        SnippetSession x = Check.expanded(64, 16, "abcd", 2, "<${2:two}|${1:one}|$0|${2/u}>");
        Check.same("text", Check.text(x), "ab<two|one||TWO>cd");
        Check.same("the least stop is selected", Check.selection(x), "7..10 1 1");
        Check.same("stop 2", Check.range(x, 2), "3..6");
        Check.same("final", Check.range(x, 0), "11..11");
        Check.is("merge", Check.merge(x), 0);
        Check.same("the body is unchanged", Check.body(x), "<${2:two}|${1:one}|$0|${2/u}>");
    }

    private static void emptiesTheHistory() {
        SnippetSession x = new SnippetSession(64, 16);
        Check.type(x, "abc");
        x.backspace();
        x.backspace();
        Check.is("depth before", Check.undoDepth(x), 3);
        Check.type(x, "d");
        Check.setBody(x, "z");
        Check.is("merge before", Check.merge(x), 1);
        Check.is("expand", x.expand(), SnippetSession.OK);
        Check.is("depth after", Check.undoDepth(x), 1);
        Check.is("merge after", Check.merge(x), 0);
        Check.is("undo", x.undo(), SnippetSession.OK);
        Check.same("text before the expansion", Check.text(x), "ad");
        Check.is("nothing more", x.undo(), SnippetSession.EMPTY);
    }

    private static void opensNoSessionWithoutStops() {
        SnippetSession x = Check.expanded(64, 16, "abcd", 1, "x$0yz");
        Check.same("text", Check.text(x), "axyzbcd");
        Check.same("at the final stop", Check.selection(x), "2..2 -1 0");
        SnippetSession y = Check.expanded(64, 16, "abcd", 1, "xyz");
        Check.same("after all items", Check.selection(y), "4..4 -1 0");
        Check.is("expanding again", y.expand(), SnippetSession.OK);
        Check.same("twice", Check.text(y), "axyzxyzbcd");
    }

    private static void acceptsAnEmptyBody() {
        SnippetSession x = Check.expanded(8, 16, "abcdefgh", 3, "");
        Check.same("text", Check.text(x), "abcdefgh");
        Check.same("selection", Check.selection(x), "3..3 -1 0");
        Check.is("depth", Check.undoDepth(x), 1);
    }

    private static void refusesInASession() {
        SnippetSession x = Check.expanded("${1:a}");
        Check.refused("well formed", x, x::expand, SnippetSession.STATE);
        Check.setBody(x, "$");
        Check.refused("STATE comes before SYNTAX", x, x::expand, SnippetSession.STATE);
        Check.is("escape", x.escape(), SnippetSession.OK);
        Check.refused("SYNTAX after the session", x, x::expand, SnippetSession.SYNTAX);
    }

    private static void testsSyntaxBeforeRoom() {
        SnippetSession x = new SnippetSession(8, 16);
        Check.setBody(x, "abcdefghi}");
        Check.refused("malformed and too long", x, x::expand, SnippetSession.SYNTAX);
    }

    private static void fillsTheCapacity() {
        SnippetSession x = new SnippetSession(8, 16);
        Check.type(x, "abc");
        Check.setBody(x, "${1:123456}");
        Check.refused("one too many", x, x::expand, SnippetSession.FULL);
        Check.setBody(x, "${1:12345}");
        Check.is("just fits", x.expand(), SnippetSession.OK);
        Check.same("text", Check.text(x), "abc12345");
    }

    private static void countsMirrorsAgainstTheCapacity() {
        SnippetSession x = new SnippetSession(8, 16);
        Check.setBody(x, "${1:a${2:b}}$1${1/u}$2${2/c}");
        Check.is("eight", x.expand(), SnippetSession.OK);
        Check.same("text", Check.text(x), "ababABbB");
        SnippetSession y = new SnippetSession(8, 16);
        Check.setBody(y, "${1:a${2:b}}$1${1/u}$2${2/c}$2");
        Check.refused("nine", y, y::expand, SnippetSession.FULL);
    }

    private static void takesTheLongestBodies() {
        SnippetSession x = Check.expanded("x".repeat(64));
        Check.same("literals alone", Check.text(x), "x".repeat(64));
        SnippetSession y = Check.expanded("$1".repeat(32));
        Check.same("references alone", Check.selection(y), "0..0 1 1");
        Check.is("typing in them", y.typeChar('q'), SnippetSession.OK);
        Check.same("they all show it", Check.text(y), "q".repeat(32));
        SnippetSession z = new SnippetSession(64, 16);
        Check.setBody(z, "${1:" + "a".repeat(29) + "}" + "$1".repeat(15));
        Check.refused("far too long a render", z, z::expand, SnippetSession.FULL);
    }

    private static void clearsWhatWasTyped() {
        SnippetSession x = Check.expanded("${1:a}${2:b}");
        Check.type(x, "xy");
        Check.is("escape", x.escape(), SnippetSession.OK);
        Check.is("expand again", x.expand(), SnippetSession.OK);
        Check.same("defaults again", Check.text(x), "xyabb");
        Check.same("selection", Check.selection(x), "2..3 1 1");
        Check.is("untouched again", x.stopState(1), SnippetSession.UNTOUCHED);
        Check.is("undo", x.undo(), SnippetSession.OK);
        Check.same("text before", Check.text(x), "xyb");
    }

    private static void keepsTheStructureWhenRefused() {
        String[] bodies = {"${3:z}${4:y}$3$", "x".repeat(64), "${2:" + "x".repeat(59) + "}"};
        for (String refusedBody : bodies) {
            SnippetSession x = Check.expanded(40, 16, "ab", 1, "${1:m}${2:n}${1/u}");
            Check.type(x, "q");
            String before = Check.whole(x);
            Check.is("backspace", x.backspace(), SnippetSession.OK);
            Check.is("escape", x.escape(), SnippetSession.OK);
            Check.setBody(x, refusedBody);
            int answer = refusedBody.endsWith("$") ? SnippetSession.SYNTAX : SnippetSession.FULL;
            Check.refused("expand of " + refusedBody, x, x::expand, answer);
            Check.is("undo into the session", x.undo(), SnippetSession.OK);
            Check.setBody(x, "${1:m}${2:n}${1/u}");
            Check.same("the session is back", Check.whole(x), before.replace(" 18 1 40", " 18 0 40"));
            Check.type(x, "r");
            Check.same("and follows its structure", Check.text(x), "aqrnQRb");
        }
    }

    private static void forgetsARefusedBody() {
        SnippetSession x = new SnippetSession(64, 16);
        Check.setBody(x, "$0$1${2:a${3:b");
        Check.is("malformed", x.expand(), SnippetSession.SYNTAX);
        Check.setBody(x, "${1:a}$0${2:b}$1");
        Check.is("well formed", x.expand(), SnippetSession.OK);
        Check.same("text", Check.text(x), "aba");
        Check.same("final", Check.range(x, 0), "1..1");
        Check.is("no stop 3", x.stopState(3), SnippetSession.ABSENT);
    }

    private static void undoesToTheBuffer() {
        SnippetSession x = Check.expanded(64, 1, "abcd", 2, "${1:xx}$1");
        Check.is("undo", x.undo(), SnippetSession.OK);
        Check.same("text", Check.text(x), "abcd");
        Check.same("selection", Check.selection(x), "2..2 -1 0");
        Check.is("stop 1", x.stopState(1), SnippetSession.ABSENT);
        Check.is("expand again", x.expand(), SnippetSession.OK);
        Check.same("text again", Check.text(x), "abxxxxcd");
    }
}
