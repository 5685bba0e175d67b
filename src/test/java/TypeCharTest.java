/** Promise 5. */
public final class TypeCharTest {
    private static final int[] BAD = {
        Integer.MIN_VALUE, -65, -1, 0, 9, 10, 31, 127, 128, 255, 256 + 65, 65536 + 65, Integer.MAX_VALUE};

    public static void main(String[] args) {
        badCodes();
        badCodesBeforeFull();
        takesEveryCode();
        fullBuffer();
        lastPlace();
        insertsAtTheCaret();
        startsAGroup();
        replacesASelection();
        replacesATypedSelection();
        appendsToTheTypedText();
        fullStop();
        fullStopSelected();
        fullByMirrors();
        fullByTheBufferAround();
        fullWhenSelected();
        roomByReplacing();
        roomAfterTheSession();
        startsAGroupInASession();
        leavesTheCaretBehindIt();
        showsInMirrors();
        showsAround();
        killsNestedStops();
        keepsTheActiveStop();
        formsOneGroup();
        formsOneGroupInASession();
        Check.finish();
    }

    private static void badCodes() {
        Check.says("outside 32..126 answers BAD_CHAR.");
        SnippetSession fresh = new SnippetSession(8, 4);
        SnippetSession merging = new SnippetSession(8, 4);
        Check.type(merging, "ab");
        SnippetSession selected = Check.expanded("${1:a}");
        SnippetSession typed = Check.expanded("${1:a}");
        Check.type(typed, "q");
        for (SnippetSession x : new SnippetSession[] {fresh, merging, selected, typed}) {
            for (int c : BAD) {
                Check.refused("typeChar(" + c + ")", x, () -> x.typeChar(c), SnippetSession.BAD_CHAR);
            }
        }
    }

    private static void badCodesBeforeFull() {
        Check.says("`typeChar(c)` first tests c");
        SnippetSession plain = new SnippetSession(8, 4);
        Check.type(plain, "abcdefgh");
        SnippetSession stop = Check.expanded("$1");
        Check.type(stop, "12345678");
        SnippetSession room = Check.expanded(8, 4, "abcdefgh", 0, "$1");
        for (SnippetSession x : new SnippetSession[] {plain, stop, room}) {
            Check.is("full", x.typeChar('a'), SnippetSession.FULL);
            for (int c : BAD) {
                Check.refused("typeChar(" + c + ") when full", x, () -> x.typeChar(c), SnippetSession.BAD_CHAR);
            }
        }
    }

    private static void takesEveryCode() {
        Check.says("outside 32..126 answers BAD_CHAR.");
        for (int c = 32; c <= 126; c++) {
            SnippetSession x = Check.expanded("$1");
            Check.is("in a session " + c, x.typeChar(c), SnippetSession.OK);
            Check.is("the code in a session", x.charAt(0), c);
            SnippetSession y = new SnippetSession(8, 1);
            Check.is("with no session " + c, y.typeChar(c), SnippetSession.OK);
            Check.is("the code with no session", y.charAt(0), c);
        }
    }

    private static void fullBuffer() {
        Check.says("if the length equals capacity, FULL.");
        for (int capacity : new int[] {8, 9, 63, 64}) {
            SnippetSession x = new SnippetSession(capacity, 4);
            Check.type(x, "a".repeat(capacity));
            Check.refused("merging", x, () -> x.typeChar('i'), SnippetSession.FULL);
            for (int caret : new int[] {0, 3, capacity}) {
                Check.play(x, "caret " + caret);
                Check.refused("at " + caret, x, () -> x.typeChar('i'), SnippetSession.FULL);
            }
        }
        SnippetSession after = Check.expanded(8, 4, "abcd", 2, "${1:wxyz}");
        Check.play(after, "escape");
        Check.refused("after a session", after, () -> after.typeChar('i'), SnippetSession.FULL);
    }

    private static void lastPlace() {
        Check.says("if the length equals capacity, FULL.");
        for (int caret : new int[] {0, 3, 7}) {
            SnippetSession x = new SnippetSession(8, 4);
            Check.play(x, "type abcdefg", "caret " + caret, "type z");
            Check.same("the last place", Check.text(x),
                    "abcdefg".substring(0, caret) + "z" + "abcdefg".substring(caret));
            Check.play(x, "back", "type y");
            Check.is("again after a backspace", Check.length(x), 8);
        }
    }

    private static void insertsAtTheCaret() {
        Check.says("c is inserted at the caret, the caret moves up by 1, selStart = caret, merge becomes true; OK.");
        for (int caret = 0; caret <= 4; caret++) {
            SnippetSession x = new SnippetSession(20, 4);
            Check.play(x, "type abcd", "caret " + caret, "type X");
            Check.same("at " + caret, Check.text(x), "abcd".substring(0, caret) + "X" + "abcd".substring(caret));
            Check.same("selection", Check.selection(x), (caret + 1) + ".." + (caret + 1) + " -1 0");
            Check.is("merge", Check.merge(x), 1);
        }
    }

    private static void startsAGroup() {
        Check.says("Otherwise a group is started if merge is false");
        SnippetSession x = new SnippetSession(20, 4);
        Check.play(x, "type a");
        Check.is("merge was false", Check.undoDepth(x), 1);
        Check.play(x, "type b");
        Check.is("merge was true", Check.undoDepth(x), 1);
        Check.play(x, "caret 0", "type c");
        Check.is("merge was false again", Check.undoDepth(x), 2);
        Check.play(x, "undo");
        Check.same("the last group alone", Check.text(x), "ab");
    }

    private static void replacesASelection() {
        Check.says("the new text is [c] if selected");
        SnippetSession x = Check.expanded(64, 16, "ab", 1, "${1:default}.");
        Check.play(x, "type x");
        Check.same("a default", Check.text(x), "ax.b");
        Check.is("state", x.stopState(1), SnippetSession.TYPED);
        SnippetSession y = Check.expanded(64, 16, "ab", 1, "$1.");
        Check.play(y, "type x");
        Check.same("an empty stop", Check.text(y), "ax.b");
        SnippetSession z = Check.expanded("${1:a${2:b}}.");
        Check.play(z, "type x");
        Check.same("nested items", Check.text(z), "x.");
    }

    private static void replacesATypedSelection() {
        Check.says("the new text is [c] if selected");
        SnippetSession x = Check.expanded("${1:a}${2:b}");
        Check.play(x, "type xyz", "next", "prev", "type q");
        Check.same("replaced", Check.text(x), "qb");
        Check.play(x, "type r");
        Check.same("appended", Check.text(x), "qrb");
        Check.play(x, "back", "back", "next", "prev", "type s");
        Check.same("an emptied text", Check.text(x), "sb");
    }

    private static void appendsToTheTypedText() {
        Check.says("otherwise (a's typed flag is then set) it is a's typed text with c appended");
        SnippetSession x = Check.expanded("${1:default}.");
        Check.play(x, "back", "type a");
        Check.same("to an empty text", Check.text(x), "a.");
        Check.play(x, "type b", "back", "type c");
        Check.same("to a shortened text", Check.text(x), "ac.");
        Check.play(x, "undo", "type d");
        Check.same("to a text that undo brought back", Check.text(x), "ad.");
    }

    private static void fullStop() {
        Check.says("the answer is FULL if that text already holds STOP_MAX codes.");
        for (int stop = 1; stop <= 9; stop++) {
            SnippetSession x = Check.expanded("${" + stop + ":a}");
            Check.type(x, "1234567");
            Check.is("the eighth code", x.typeChar('8'), SnippetSession.OK);
            Check.refused("a ninth code", x, () -> x.typeChar('9'), SnippetSession.FULL);
            Check.play(x, "back", "type 9");
            Check.same("after a backspace", Check.text(x), "12345679");
        }
    }

    private static void fullStopSelected() {
        Check.says("the new text is [c] if selected");
        SnippetSession x = Check.expanded("${1:a}$2");
        Check.play(x, "type 12345678", "next", "prev");
        Check.is("a full text that is selected is not full", x.typeChar('9'), SnippetSession.OK);
        Check.same("text", Check.text(x), "9");
        SnippetSession y = Check.expanded("${1:123456789}");
        Check.is("nor is a longer default", y.typeChar('9'), SnippetSession.OK);
    }

    private static void fullByMirrors() {
        Check.says("The answer is also FULL if L + |R'| > capacity");
        SnippetSession x = Check.expanded(8, 16, "ab", 1, "$1-$1-${1/u}");
        Check.play(x, "type c");
        Check.same("seven codes", Check.text(x), "ac-c-Cb");
        Check.refused("ten codes", x, () -> x.typeChar('d'), SnippetSession.FULL);
        SnippetSession nested = Check.expanded(8, 16, "", 0, "${1:a${2:b}}$1$2");
        Check.play(nested, "next", "type c", "type d");
        Check.same("each code shows three times", Check.text(nested), "acdacdcd");
        Check.refused("three more", nested, () -> nested.typeChar('e'), SnippetSession.FULL);
    }

    private static void fullByTheBufferAround() {
        Check.says("where L is the length of B, the buffer just before the expansion");
        for (int length = 0; length <= 8; length++) {
            SnippetSession x = Check.expanded(8, 16, "abcdefgh".substring(0, length), length / 2, "$1");
            Check.type(x, "12345678".substring(0, 8 - length));
            Check.is("full", Check.length(x), 8);
            Check.refused("one too many beside " + length, x, () -> x.typeChar('z'), SnippetSession.FULL);
        }
    }

    private static void fullWhenSelected() {
        Check.says("The answer is also FULL if L + |R'| > capacity");
        SnippetSession nine = Check.expanded(8, 16, "abcde", 5, "$1xy$1");
        Check.refused("nine codes", nine, () -> nine.typeChar('d'), SnippetSession.FULL);
        Check.same("still selected", Check.selection(nine), "5..5 1 1");
        SnippetSession eight = Check.expanded(8, 16, "abcd", 4, "$1xy$1");
        Check.is("eight codes", eight.typeChar('d'), SnippetSession.OK);
        Check.same("text", Check.text(eight), "abcddxyd");
        SnippetSession many = Check.expanded(64, 16, "a".repeat(33), 0, "$1".repeat(32));
        Check.refused("65 codes", many, () -> many.typeChar('d'), SnippetSession.FULL);
        SnippetSession most = Check.expanded(64, 16, "a".repeat(32), 0, "$1".repeat(32));
        Check.is("64 codes", most.typeChar('d'), SnippetSession.OK);
        Check.refused("96 codes", most, () -> most.typeChar('d'), SnippetSession.FULL);
    }

    private static void roomByReplacing() {
        Check.says("R' is R rendered with a's typed flag set, a's typed text equal to the new text, and all other flags"
                + " and texts as they are.");
        SnippetSession x = Check.expanded(8, 16, "ab", 2, "${1:xyz}$1");
        Check.is("full", Check.length(x), 8);
        Check.play(x, "type q", "type r");
        Check.same("shorter than the default", Check.text(x), "abqrqr");
        SnippetSession typed = Check.expanded(8, 16, "", 0, "$1$2");
        Check.play(typed, "type 12345678", "next");
        Check.refused("no room at the other stop", typed, () -> typed.typeChar('q'), SnippetSession.FULL);
        Check.play(typed, "prev", "type 9");
        Check.same("a full text replaced", Check.text(typed), "9");
        SnippetSession nested = Check.expanded(8, 16, "ab", 2, "${1:x${2:yz}}$1");
        Check.play(nested, "type q");
        Check.same("nested defaults replaced", Check.text(nested), "abqq");
        SnippetSession dead = Check.expanded(8, 16, "", 0, "${1:a${2:b}}$2$2$2");
        Check.play(dead, "next", "type c", "prev", "type d");
        Check.same("mirrors of a dead stop still count", Check.text(dead), "dccc");
        Check.play(dead, "type e", "type f", "type g", "type h");
        Check.refused("nine codes", dead, () -> dead.typeChar('i'), SnippetSession.FULL);
    }

    private static void roomAfterTheSession() {
        Check.says("With no session: if the length equals capacity, FULL.");
        SnippetSession x = Check.expanded("$1");
        Check.play(x, "type 12345678", "escape", "type 9");
        Check.same("a full stop no longer matters", Check.text(x), "123456789");
    }

    private static void startsAGroupInASession() {
        Check.says("Otherwise: a group is started if merge is false; a's typed flag is set and its typed text becomes"
                + " the new text");
        SnippetSession x = Check.expanded("${1:a}${2:b}");
        Check.play(x, "type q");
        Check.is("merge was false", Check.undoDepth(x), 2);
        Check.play(x, "type r");
        Check.is("merge was true", Check.undoDepth(x), 2);
        Check.play(x, "next", "type s");
        Check.is("merge was false again", Check.undoDepth(x), 3);
        Check.is("the flag", x.stopState(2), SnippetSession.TYPED);
        SnippetSession full = Check.expanded(8, 4, "abcdefgh", 0, "$1");
        Check.refused("a refused code starts none", full, () -> full.typeChar('z'), SnippetSession.FULL);
        Check.is("depth", Check.undoDepth(full), 1);
        Check.is("nor does it set the flag", full.stopState(1), SnippetSession.UNTOUCHED);
    }

    private static void leavesTheCaretBehindIt() {
        Check.says("selected becomes false; caret = end of a; selStart = caret; merge becomes true; OK.");
        SnippetSession x = Check.expanded(64, 16, "AB", 1, "$1-${2:default}-$1");
        Check.play(x, "type xy");
        Check.same("at the first", Check.selection(x), "3..3 1 0");
        Check.play(x, "next");
        Check.is("merge before", Check.merge(x), 0);
        Check.play(x, "type z");
        Check.same("at the second", Check.selection(x), "5..5 2 0");
        Check.is("merge", Check.merge(x), 1);
    }

    private static void showsInMirrors() {
        Check.says("so every mirror of a shows its transform of the new text");
        SnippetSession x = Check.expanded("$1|$1|${1}|${1/u}|${1/l}|${1/c}");
        Check.play(x, "type aB");
        Check.same("text", Check.text(x), "aB|aB|aB|AB|ab|AB");
    }

    private static void showsAround() {
        Check.says("every placeholder enclosing a's primary contains the new text");
        SnippetSession x = Check.expanded("${1:a${2:b${3:c${4:d}}}}|${1/u}");
        Check.play(x, "next", "next", "next", "type xy");
        Check.same("text", Check.text(x), "abcxy|ABCXY");
        Check.same("stop 1", Check.range(x, 1), "0..5");
        Check.same("stop 2", Check.range(x, 2), "1..5");
        Check.same("stop 3", Check.range(x, 3), "2..5");
        Check.is("they are not typed themselves", x.stopState(1), SnippetSession.UNTOUCHED);
    }

    private static void killsNestedStops() {
        Check.says("every stop nested in a's primary becomes dead once a's typed flag is set.");
        SnippetSession x = Check.expanded("${1:a${2:b${3:c}}$4}$5");
        Check.play(x, "type z");
        for (int n = 2; n <= 4; n++) {
            Check.is("stop " + n, x.stopState(n), SnippetSession.DEAD);
        }
        Check.is("stop 5 is outside", x.stopState(5), SnippetSession.UNTOUCHED);
        SnippetSession y = Check.expanded("${9:a${8:b}}");
        Check.play(y, "next", "type z");
        Check.is("a smaller stop in a greater one", y.stopState(8), SnippetSession.DEAD);
        SnippetSession full = Check.expanded(8, 1, "abcdefgh", 0, "${1:$2}");
        Check.refused("a refused code kills none", full, () -> full.typeChar('z'), SnippetSession.FULL);
        Check.is("stop 2", full.stopState(2), SnippetSession.UNTOUCHED);
    }

    private static void keepsTheActiveStop() {
        Check.says("The active stop does not change.");
        SnippetSession x = Check.expanded("${1:a}${2:b${3:c}}");
        Check.play(x, "type 12345678");
        Check.is("not even when it is full", Check.active(x), 1);
        Check.play(x, "next", "type z");
        Check.is("with a stop inside", Check.active(x), 2);
    }

    private static void formsOneGroup() {
        Check.says("A run of successful typeChar calls with no other successful merge-clearing call between them forms"
                + " one group.");
        SnippetSession x = new SnippetSession(20, 4);
        Check.play(x, "type abc");
        Check.is("a refused call", x.setCaret(9), SnippetSession.RANGE);
        Check.is("another", x.next(), SnippetSession.STATE);
        Check.is("a third", x.typeChar(31), SnippetSession.BAD_CHAR);
        Check.play(x, "feed 97", "clear", "type d");
        Check.is("one group", Check.undoDepth(x), 1);
        Check.play(x, "undo");
        Check.same("all undone", Check.text(x), "");
    }

    private static void formsOneGroupInASession() {
        Check.says("A run of successful typeChar calls with no other successful merge-clearing call between them forms"
                + " one group.");
        SnippetSession x = Check.expanded("${1:a}${2:b}");
        Check.play(x, "type xyz");
        Check.is("a refused call", x.prev(), SnippetSession.NONE);
        Check.is("another", x.expand(), SnippetSession.STATE);
        Check.play(x, "type w");
        Check.is("one group", Check.undoDepth(x), 2);
        Check.play(x, "next", "type w");
        Check.is("a second group", Check.undoDepth(x), 3);
        Check.play(x, "escape", "type v");
        Check.is("a third group", Check.undoDepth(x), 4);
        Check.play(x, "undo", "undo");
        Check.same("two undone", Check.text(x), "xyzwb");
        Check.same("selection", Check.selection(x), "4..5 2 1");
    }
}
