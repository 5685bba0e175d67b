/** Promise 6. */
public final class BackspaceTest {
    public static void main(String[] args) {
        deletesBeforeTheCaret();
        refusesAtTheStart();
        startsAGroupEachTime();
        emptiesASelection();
        removesTheLastCode();
        emptiesANestingStop();
        Check.finish();
    }

    private static void deletesBeforeTheCaret() {
        SnippetSession x = new SnippetSession(20, 8);
        Check.type(x, "abcd");
        Check.is("at the end", x.backspace(), SnippetSession.OK);
        Check.same("text", Check.text(x), "abc");
        x.setCaret(2);
        Check.is("in the middle", x.backspace(), SnippetSession.OK);
        Check.same("text", Check.text(x), "ac");
        Check.same("selection", Check.selection(x), "1..1 -1 0");
        Check.is("to the start", x.backspace(), SnippetSession.OK);
        Check.same("text", Check.text(x), "c");
        Check.same("selection", Check.selection(x), "0..0 -1 0");
    }

    private static void refusesAtTheStart() {
        SnippetSession x = new SnippetSession(8, 2);
        Check.refused("an empty buffer", x, x::backspace, SnippetSession.EMPTY);
        Check.type(x, "a");
        x.setCaret(0);
        Check.refused("caret 0", x, x::backspace, SnippetSession.EMPTY);
        SnippetSession y = Check.expanded(8, 4, "", 0, "");
        Check.type(y, "a");
        y.backspace();
        Check.refused("nothing left", y, y::backspace, SnippetSession.EMPTY);
    }

    private static void startsAGroupEachTime() {
        SnippetSession x = new SnippetSession(20, 8);
        Check.type(x, "abc");
        x.backspace();
        Check.is("merge", Check.merge(x), 0);
        x.backspace();
        Check.is("three groups", Check.undoDepth(x), 3);
        Check.type(x, "d");
        Check.is("typing starts a fourth", Check.undoDepth(x), 4);
        x.undo();
        x.undo();
        Check.same("one undone", Check.text(x), "ab");
        Check.is("caret", Check.caret(x), 2);
        x.undo();
        Check.same("both undone", Check.text(x), "abc");
    }

    private static void emptiesASelection() {
        SnippetSession x = Check.expanded(64, 16, "ab", 1, "${1:default}|$1|${2:x}");
        Check.is("backspace", x.backspace(), SnippetSession.OK);
        Check.same("text", Check.text(x), "a||xb");
        Check.same("selection", Check.selection(x), "1..1 1 0");
        Check.is("state", x.stopState(1), SnippetSession.TYPED);
        Check.is("a group", Check.undoDepth(x), 2);
        Check.refused("nothing more", x, x::backspace, SnippetSession.EMPTY);
        x.next();
        x.prev();
        Check.is("a selected empty text", x.backspace(), SnippetSession.OK);
        Check.is("its group", Check.undoDepth(x), 3);
        SnippetSession y = Check.expanded("a$1");
        Check.is("a reference", y.backspace(), SnippetSession.OK);
        Check.is("is typed then", y.stopState(1), SnippetSession.TYPED);
    }

    private static void removesTheLastCode() {
        SnippetSession x = Check.expanded(64, 16, "ab", 1, "${1:d}|${1/u}");
        Check.type(x, "xyz");
        Check.is("backspace", x.backspace(), SnippetSession.OK);
        Check.same("text", Check.text(x), "axy|XYb");
        Check.same("selection", Check.selection(x), "3..3 1 0");
        Check.is("merge", Check.merge(x), 0);
        Check.is("backspace", x.backspace(), SnippetSession.OK);
        Check.is("backspace", x.backspace(), SnippetSession.OK);
        Check.same("empty, not the default", Check.text(x), "a|b");
        Check.refused("nothing more", x, x::backspace, SnippetSession.EMPTY);
        Check.is("a group each", Check.undoDepth(x), 5);
        Check.type(x, "q");
        Check.is("typing starts a group", Check.undoDepth(x), 6);
        Check.same("text", Check.text(x), "aq|Qb");
        x.undo();
        x.undo();
        Check.same("undone", Check.text(x), "ax|Xb");
    }

    private static void emptiesANestingStop() {
        SnippetSession x = Check.expanded("${1:a${2:b}}$2");
        Check.is("backspace", x.backspace(), SnippetSession.OK);
        Check.same("text", Check.text(x), "b");
        Check.is("the nested stop is dead", x.stopState(2), SnippetSession.DEAD);
        Check.is("the active stop stays", Check.active(x), 1);
    }
}
