/** Promise 6. */
public final class BackspaceTest {
    public static void main(String[] args) {
        refusesAtTheStart();
        deletesBeforeTheCaret();
        startsAGroupEachTime();
        emptiesASelection();
        emptiesAnEmptySelection();
        refusesAnEmptyText();
        removesTheLastCode();
        looksAtTheStopAlone();
        leavesTheCaretBehindTheStop();
        startsAGroupEachTimeInASession();
        followsTheEquation();
        keepsTheActiveStop();
        clearsMerge();
        Check.finish();
    }

    private static void refusesAtTheStart() {
        Check.says("With no session: caret = 0 answers EMPTY.");
        SnippetSession x = new SnippetSession(8, 2);
        Check.refused("an empty buffer", x, x::backspace, SnippetSession.EMPTY);
        Check.play(x, "type a", "caret 0");
        Check.refused("with text behind the caret", x, x::backspace, SnippetSession.EMPTY);
        SnippetSession full = new SnippetSession(8, 2);
        Check.play(full, "type abcdefgh", "caret 0");
        Check.refused("with a full buffer", full, full::backspace, SnippetSession.EMPTY);
        SnippetSession y = Check.expanded(8, 4, "", 0, "");
        Check.play(y, "type a", "back");
        Check.refused("nothing left", y, y::backspace, SnippetSession.EMPTY);
        SnippetSession ended = Check.expanded("$0$1abc");
        Check.play(ended, "next");
        Check.refused("after a session", ended, ended::backspace, SnippetSession.EMPTY);
    }

    private static void deletesBeforeTheCaret() {
        Check.says("the code before the caret is deleted, the caret moves down by 1, selStart = caret; OK.");
        for (int caret = 1; caret <= 8; caret++) {
            SnippetSession x = new SnippetSession(8, 8);
            Check.play(x, "type abcdefgh", "caret " + caret, "back");
            Check.same("text", Check.text(x), "abcdefgh".substring(0, caret - 1) + "abcdefgh".substring(caret));
            Check.same("selection", Check.selection(x), (caret - 1) + ".." + (caret - 1) + " -1 0");
        }
    }

    private static void startsAGroupEachTime() {
        Check.says("Otherwise a group is started");
        SnippetSession x = new SnippetSession(20, 8);
        Check.play(x, "type abc", "back", "back");
        Check.is("three groups", Check.undoDepth(x), 3);
        Check.play(x, "undo");
        Check.same("one undone", Check.text(x), "ab");
        Check.is("caret", Check.caret(x), 2);
        Check.play(x, "undo");
        Check.same("both undone", Check.text(x), "abc");
    }

    private static void emptiesASelection() {
        Check.says("if selected, a's typed flag is set and its typed text becomes empty");
        SnippetSession x = Check.expanded(64, 16, "ab", 1, "${1:default}|$1|${2:x}");
        Check.play(x, "back");
        Check.same("a default", Check.text(x), "a||xb");
        Check.is("state", x.stopState(1), SnippetSession.TYPED);
        Check.play(x, "type 12345678", "next", "prev", "back");
        Check.same("a typed text", Check.text(x), "a||xb");
        SnippetSession y = Check.expanded("${1:a${2:b}}|$2");
        Check.play(y, "back");
        Check.same("nested items", Check.text(y), "|b");
        Check.is("the nested stop is dead", y.stopState(2), SnippetSession.DEAD);
    }

    private static void emptiesAnEmptySelection() {
        Check.says("if selected, a's typed flag is set and its typed text becomes empty");
        SnippetSession reference = Check.expanded("$1${2:x}");
        Check.is("a reference", reference.backspace(), SnippetSession.OK);
        Check.is("is typed then", reference.stopState(1), SnippetSession.TYPED);
        Check.is("a group", Check.undoDepth(reference), 2);
        Check.play(reference, "next", "prev");
        Check.is("an emptied text that is selected", reference.backspace(), SnippetSession.OK);
        Check.is("another group", Check.undoDepth(reference), 3);
        SnippetSession placeholder = Check.expanded("${1:}");
        Check.is("an empty default", placeholder.backspace(), SnippetSession.OK);
        Check.same("selection", Check.selection(placeholder), "0..0 1 0");
    }

    private static void refusesAnEmptyText() {
        Check.says("else if a's typed text is empty, EMPTY");
        SnippetSession x = Check.expanded(64, 16, "ab", 1, "${1:default}|$1");
        Check.play(x, "back");
        Check.refused("after emptying the selection", x, x::backspace, SnippetSession.EMPTY);
        Check.play(x, "type q", "back");
        Check.refused("after removing the last code", x, x::backspace, SnippetSession.EMPTY);
        Check.refused("and again", x, x::backspace, SnippetSession.EMPTY);
        Check.play(x, "type q");
        Check.is("with a code again", x.backspace(), SnippetSession.OK);
    }

    private static void removesTheLastCode() {
        Check.says("else its last code is removed.");
        SnippetSession x = Check.expanded("${1:d}|${1/u}");
        Check.play(x, "type abcdefgh");
        for (int left = 7; left >= 0; left--) {
            Check.play(x, "back");
            String kept = "abcdefgh".substring(0, left);
            Check.same("text", Check.text(x), kept + "|" + kept.toUpperCase(java.util.Locale.ROOT));
        }
        Check.is("empty, but typed", x.stopState(1), SnippetSession.TYPED);
    }

    private static void looksAtTheStopAlone() {
        Check.says("In a session with active stop a");
        SnippetSession start = Check.expanded("${1:abc}");
        Check.play(start, "type q", "back", "next", "undo");
        Check.same("caret 1", Check.selection(start), "1..1 1 0");
        Check.play(start, "back");
        Check.same("caret 0", Check.selection(start), "0..0 1 0");
        Check.refused("nothing at the buffer's start", start, start::backspace, SnippetSession.EMPTY);
        SnippetSession behind = Check.expanded(64, 16, "ab", 2, "cd$1");
        Check.play(behind, "back");
        Check.refused("codes before the stop do not count", behind, behind::backspace, SnippetSession.EMPTY);
        SnippetSession selected = Check.expanded(64, 16, "ab", 0, "$1");
        Check.is("nor does caret 0 while selected", selected.backspace(), SnippetSession.OK);
        Check.same("text", Check.text(selected), "ab");
    }

    private static void leavesTheCaretBehindTheStop() {
        Check.says("selected becomes false; caret = end of a; selStart = caret; OK.");
        SnippetSession x = Check.expanded(64, 16, "ab", 1, "$1-${2:d}|${1/u}");
        Check.play(x, "type xyz", "back");
        Check.same("a code removed", Check.selection(x), "3..3 1 0");
        Check.play(x, "next", "back");
        Check.same("a selection emptied", Check.selection(x), "4..4 2 0");
    }

    private static void startsAGroupEachTimeInASession() {
        Check.says("On success: a group is started");
        SnippetSession x = Check.expanded("${1:d}|${1/u}");
        Check.play(x, "type xyz", "back", "back", "back");
        Check.is("a group each", Check.undoDepth(x), 5);
        Check.play(x, "undo", "undo");
        Check.same("two undone", Check.text(x), "xy|XY");
        Check.play(x, "undo", "undo");
        Check.same("all undone", Check.text(x), "d|D");
        Check.same("selection", Check.selection(x), "0..1 1 1");
    }

    private static void followsTheEquation() {
        Check.says("The buffer follows the session equation.");
        SnippetSession x = Check.expanded(8, 16, "ABCD", 2, "$1$1");
        Check.play(x, "type ab", "back");
        Check.same("in the stop and its mirror", Check.text(x), "ABaaCD");
        SnippetSession y = Check.expanded("${1:a${2:bc}}$1$2");
        Check.play(y, "next", "type xy", "back");
        Check.same("in the placeholder around, too", Check.text(y), "axaxx");
    }

    private static void keepsTheActiveStop() {
        Check.says("The active stop does not change.");
        SnippetSession x = Check.expanded("${1:a}${2:b${3:c}}");
        Check.play(x, "next", "back");
        Check.is("active", Check.active(x), 2);
    }

    private static void clearsMerge() {
        Check.says("On success merge becomes false, so a following typeChar starts a new group.");
        SnippetSession plain = new SnippetSession(20, 8);
        SnippetSession inSession = Check.expanded("${1:d}");
        for (SnippetSession x : new SnippetSession[] {plain, inSession}) {
            Check.play(x, "type ab");
            int depth = Check.undoDepth(x);
            Check.play(x, "back");
            Check.is("merge", Check.merge(x), 0);
            Check.play(x, "type c");
            Check.is("two more groups", Check.undoDepth(x), depth + 2);
            Check.play(x, "undo");
            Check.same("the typing alone is undone", Check.text(x), "a");
        }
    }
}
