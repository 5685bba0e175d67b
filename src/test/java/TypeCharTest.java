/** Promise 5. */
public final class TypeCharTest {
    public static void main(String[] args) {
        insertsAtTheCaret();
        takesEveryCode();
        refusesOtherCodes();
        refusesAFullBuffer();
        formsGroups();
        replacesASelection();
        replacesATypedSelection();
        refusesAFullStop();
        refusesAFullBufferInASession();
        shrinksThenFits();
        showsInMirrorsAndAround();
        killsNestedStops();
        keepsMirrorsOfDeadStops();
        formsGroupsInASession();
        Check.finish();
    }

    private static void insertsAtTheCaret() {
        SnippetSession x = new SnippetSession(20, 4);
        Check.type(x, "ad");
        x.setCaret(1);
        Check.type(x, "bc");
        Check.same("in the middle", Check.text(x), "abcd");
        Check.same("selection", Check.selection(x), "3..3 -1 0");
        x.setCaret(0);
        Check.type(x, "_");
        Check.same("at the start", Check.text(x), "_abcd");
        x.setCaret(5);
        Check.type(x, ".");
        Check.same("at the end", Check.text(x), "_abcd.");
    }

    private static void takesEveryCode() {
        for (int c = 32; c <= 126; c++) {
            SnippetSession x = Check.expanded("$1");
            Check.is("in a session " + c, x.typeChar(c), SnippetSession.OK);
            Check.is("the code in a session", x.charAt(0), c);
            SnippetSession y = new SnippetSession(8, 1);
            Check.is("with no session " + c, y.typeChar(c), SnippetSession.OK);
            Check.is("the code with no session", y.charAt(0), c);
        }
    }

    private static void refusesOtherCodes() {
        SnippetSession plain = new SnippetSession(8, 4);
        Check.type(plain, "abcdefgh");
        SnippetSession inSession = Check.expanded("${1:a}");
        for (int c : new int[] {Integer.MIN_VALUE, -1, 0, 31, 127, 256 + 65, Integer.MAX_VALUE}) {
            Check.refused("BAD_CHAR before FULL", plain, () -> plain.typeChar(c), SnippetSession.BAD_CHAR);
            Check.refused("in a session", inSession, () -> inSession.typeChar(c), SnippetSession.BAD_CHAR);
        }
    }

    private static void refusesAFullBuffer() {
        SnippetSession x = new SnippetSession(8, 4);
        Check.type(x, "abcdefgh");
        Check.refused("merging", x, () -> x.typeChar('i'), SnippetSession.FULL);
        x.setCaret(3);
        Check.refused("not merging", x, () -> x.typeChar('i'), SnippetSession.FULL);
    }

    private static void formsGroups() {
        SnippetSession x = new SnippetSession(20, 4);
        Check.type(x, "abc");
        Check.is("one group", Check.undoDepth(x), 1);
        Check.is("merge", Check.merge(x), 1);
        Check.is("a refused call", x.setCaret(9), SnippetSession.RANGE);
        Check.is("another", x.next(), SnippetSession.STATE);
        x.feed('a');
        x.clearSnippet();
        Check.type(x, "d");
        Check.is("still one group", Check.undoDepth(x), 1);
        x.setCaret(4);
        Check.type(x, "ef");
        Check.is("a second group", Check.undoDepth(x), 2);
        Check.is("undo", x.undo(), SnippetSession.OK);
        Check.same("text", Check.text(x), "abcd");
        Check.type(x, "g");
        Check.is("a group after undo", Check.undoDepth(x), 2);
        Check.is("undo", x.undo(), SnippetSession.OK);
        Check.is("undo", x.undo(), SnippetSession.OK);
        Check.same("all undone", Check.text(x), "");
    }

    private static void replacesASelection() {
        SnippetSession x = Check.expanded(64, 16, "ab", 1, "${1:default}.");
        Check.type(x, "x");
        Check.same("text", Check.text(x), "ax.b");
        Check.same("selection", Check.selection(x), "2..2 1 0");
        Check.is("state", x.stopState(1), SnippetSession.TYPED);
        Check.type(x, "yz");
        Check.same("appended", Check.text(x), "axyz.b");
        Check.same("caret", Check.selection(x), "4..4 1 0");
    }

    private static void replacesATypedSelection() {
        SnippetSession x = Check.expanded("${1:a}${2:b}");
        Check.type(x, "xyz");
        x.next();
        x.prev();
        Check.same("selected again", Check.selection(x), "0..3 1 1");
        Check.type(x, "q");
        Check.same("replaced", Check.text(x), "qb");
        Check.type(x, "r");
        Check.same("appended", Check.text(x), "qrb");
    }

    private static void refusesAFullStop() {
        SnippetSession x = Check.expanded("${1:a}$2");
        Check.type(x, "12345678");
        Check.refused("a ninth code", x, () -> x.typeChar('9'), SnippetSession.FULL);
        x.next();
        x.prev();
        Check.is("selected, so not full", x.typeChar('9'), SnippetSession.OK);
        Check.same("text", Check.text(x), "9");
    }

    private static void refusesAFullBufferInASession() {
        SnippetSession x = Check.expanded(8, 16, "ab", 1, "$1-$1-${1/u}");
        Check.type(x, "c");
        Check.same("seven codes", Check.text(x), "ac-c-Cb");
        Check.refused("ten codes", x, () -> x.typeChar('d'), SnippetSession.FULL);
        SnippetSession y = Check.expanded(8, 16, "abcde", 5, "$1xy$1");
        Check.refused("nine codes", y, () -> y.typeChar('d'), SnippetSession.FULL);
        SnippetSession z = Check.expanded(8, 16, "abcd", 4, "$1xy$1");
        Check.is("eight codes", z.typeChar('d'), SnippetSession.OK);
        Check.same("text", Check.text(z), "abcddxyd");
        SnippetSession nested = Check.expanded(8, 16, "", 0, "${1:a${2:b}}$1$2");
        nested.next();
        Check.type(nested, "c");
        Check.is("each code shows three times", nested.typeChar('d'), SnippetSession.OK);
        Check.same("text", Check.text(nested), "acdacdcd");
        Check.refused("three more", nested, () -> nested.typeChar('e'), SnippetSession.FULL);
    }

    private static void shrinksThenFits() {
        SnippetSession x = Check.expanded(8, 16, "ab", 2, "${1:xyz}$1");
        Check.is("full", x.info(SnippetSession.INFO_LENGTH), 8);
        Check.type(x, "qr");
        Check.same("shorter than the default", Check.text(x), "abqrqr");
    }

    private static void showsInMirrorsAndAround() {
        SnippetSession x = Check.expanded("${1:a${2:b}c}|$2|${2/u}|${2/c}|$1|${1/u}");
        x.next();
        Check.type(x, "xY");
        Check.same("text", Check.text(x), "axYc|xY|XY|XY|axYc|AXYC");
        Check.same("stop 1 grew", Check.range(x, 1), "0..4");
        Check.same("stop 2", Check.range(x, 2), "1..3");
        Check.is("stop 1 is untouched", x.stopState(1), SnippetSession.UNTOUCHED);
        SnippetSession y = Check.expanded("$1${1/l}${1/c}");
        Check.type(y, "aB");
        Check.same("lower and capital", Check.text(y), "aBabAB");
    }

    private static void killsNestedStops() {
        SnippetSession x = Check.expanded("${1:a${2:b${3:c}}$4}$5");
        Check.type(x, "z");
        for (int n = 2; n <= 4; n++) {
            Check.is("stop " + n, x.stopState(n), SnippetSession.DEAD);
            Check.same("range " + n, Check.range(x, n), "-1..-1");
        }
        Check.is("stop 5 is outside", x.stopState(5), SnippetSession.UNTOUCHED);
        Check.is("the active stop stays", Check.active(x), 1);
        Check.same("text", Check.text(x), "z");
        SnippetSession y = Check.expanded("${9:a${8:b}}");
        y.next();
        Check.type(y, "z");
        Check.is("stop 8 in stop 9", y.stopState(8), SnippetSession.DEAD);
    }

    private static void keepsMirrorsOfDeadStops() {
        SnippetSession x = Check.expanded("${1:a${2:b${3:c}}}$2$3");
        x.next();
        x.next();
        Check.type(x, "q");
        x.prev();
        x.prev();
        Check.type(x, "z");
        Check.same("they show their texts", Check.text(x), "zbqq");
    }

    private static void formsGroupsInASession() {
        SnippetSession x = Check.expanded("${1:a}${2:b}");
        Check.type(x, "xyz");
        Check.is("one group", Check.undoDepth(x), 2);
        Check.is("refused", x.prev(), SnippetSession.NONE);
        Check.type(x, "w");
        Check.is("still one group", Check.undoDepth(x), 2);
        x.next();
        Check.is("merge after next", Check.merge(x), 0);
        Check.type(x, "w");
        Check.is("a second group", Check.undoDepth(x), 3);
        x.escape();
        Check.type(x, "v");
        Check.is("a third group", Check.undoDepth(x), 4);
        Check.same("text", Check.text(x), "xyzwwv");
        x.undo();
        x.undo();
        Check.same("second undone", Check.text(x), "xyzwb");
        Check.same("its selection", Check.selection(x), "4..5 2 1");
    }
}
