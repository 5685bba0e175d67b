/** Promise 11. */
public final class UndoTest {
    public static void main(String[] args) {
        refusesAnEmptyHistory();
        restoresPlainEdits();
        restoresASession();
        restoresTypedTexts();
        bringsBackAnEndedSession();
        keepsStructureAndBody();
        dropsTheOldest();
        undoesAWholeExpansion();
        losesTheExpansionAtASmallCap();
        Check.finish();
    }

    private static void refusesAnEmptyHistory() {
        SnippetSession x = new SnippetSession(8, 2);
        Check.refused("fresh", x, x::undo, SnippetSession.EMPTY);
        Check.type(x, "a");
        x.undo();
        Check.refused("all undone", x, x::undo, SnippetSession.EMPTY);
    }

    private static void restoresPlainEdits() {
        SnippetSession x = new SnippetSession(20, 8);
        Check.type(x, "abcd");
        x.setCaret(2);
        Check.type(x, "xy");
        x.setCaret(5);
        x.backspace();
        Check.same("text", Check.text(x), "abxyd");
        Check.is("undo", x.undo(), SnippetSession.OK);
        Check.same("backspace undone", Check.text(x), "abxycd");
        Check.same("selection", Check.selection(x), "5..5 -1 0");
        Check.is("undo", x.undo(), SnippetSession.OK);
        Check.same("typing undone", Check.text(x), "abcd");
        Check.same("selection", Check.selection(x), "2..2 -1 0");
        Check.type(x, "z");
        Check.is("undo", x.undo(), SnippetSession.OK);
        Check.is("merge", Check.merge(x), 0);
        Check.is("undo", x.undo(), SnippetSession.OK);
        Check.same("all undone", Check.text(x), "");
    }

    private static void restoresASession() {
        SnippetSession x = Check.expanded(64, 16, "ab", 1, "${1:a${2:b}}|$2|${1/u}");
        x.next();
        Check.type(x, "qr");
        x.prev();
        String before = Check.whole(x);
        Check.type(x, "zz");
        x.backspace();
        Check.is("stop 2 is dead", x.stopState(2), SnippetSession.DEAD);
        Check.is("undo", x.undo(), SnippetSession.OK);
        Check.same("text", Check.text(x), "azz|qr|ZZb");
        Check.same("selection", Check.selection(x), "3..3 1 0");
        Check.is("undo", x.undo(), SnippetSession.OK);
        Check.same("all as before", Check.whole(x), before);
        Check.is("undo", x.undo(), SnippetSession.OK);
        Check.same("text", Check.text(x), "aab|b|ABb");
        Check.same("selection", Check.selection(x), "2..3 2 1");
        Check.is("stop 2", x.stopState(2), SnippetSession.UNTOUCHED);
    }

    private static void restoresTypedTexts() {
        SnippetSession x = Check.expanded("${1:a}${2:b}$2$1");
        Check.type(x, "xyz");
        x.next();
        Check.type(x, "pq");
        x.prev();
        Check.type(x, "mno");
        Check.is("undo", x.undo(), SnippetSession.OK);
        Check.same("text", Check.text(x), "xyzpqpqxyz");
        x.next();
        Check.type(x, "s");
        Check.same("the text of stop 1 came back too", Check.text(x), "xyzssxyz");
    }

    private static void bringsBackAnEndedSession() {
        SnippetSession x = Check.expanded(64, 16, "ab", 1, "${1:a}|$1|${2:c}");
        Check.type(x, "q");
        x.next();
        Check.type(x, "r");
        x.next();
        Check.type(x, "tail");
        x.setCaret(0);
        Check.type(x, "head");
        Check.same("text", Check.text(x), "headaq|q|rtailb");
        x.undo();
        x.undo();
        Check.same("no session yet", Check.selection(x), "6..6 -1 0");
        Check.is("undo", x.undo(), SnippetSession.OK);
        Check.same("at stop 2 again", Check.selection(x), "5..6 2 1");
        Check.is("prev", x.prev(), SnippetSession.OK);
        Check.type(x, "xyz");
        Check.same("the mirror follows", Check.text(x), "axyz|xyz|cb");
    }

    private static void keepsStructureAndBody() {
        SnippetSession x = Check.expanded("${1:a}$1");
        Check.type(x, "q");
        Check.setBody(x, "other");
        Check.is("undo", x.undo(), SnippetSession.OK);
        Check.same("body", Check.body(x), "other");
        Check.type(x, "rs");
        Check.same("structure", Check.text(x), "rsrs");
    }

    private static void dropsTheOldest() {
        SnippetSession x = new SnippetSession(20, 3);
        Check.type(x, "abcdefgh");
        for (int i = 0; i < 5; i++) {
            x.backspace();
        }
        Check.is("depth", Check.undoDepth(x), 3);
        for (int i = 2; i >= 0; i--) {
            Check.is("undo", x.undo(), SnippetSession.OK);
            Check.is("depth", Check.undoDepth(x), i);
        }
        Check.same("the oldest that is held", Check.text(x), "abcdef");
        Check.is("no more", x.undo(), SnippetSession.EMPTY);
    }

    private static void undoesAWholeExpansion() {
        SnippetSession x = Check.expanded(64, 16, "before", 3, "${1:a${2:b}}$1${2/u}");
        x.next();
        Check.type(x, "xy");
        x.backspace();
        x.prev();
        Check.type(x, "q");
        x.next();
        Check.type(x, "end");
        int depth = Check.undoDepth(x);
        Check.is("depth", depth, 5);
        for (int i = 0; i < depth; i++) {
            Check.is("undo", x.undo(), SnippetSession.OK);
        }
        Check.same("text", Check.text(x), "before");
        Check.same("selection", Check.selection(x), "3..3 -1 0");
        Check.is("depth", Check.undoDepth(x), 0);
        Check.is("no more", x.undo(), SnippetSession.EMPTY);
    }

    private static void losesTheExpansionAtASmallCap() {
        SnippetSession x = Check.expanded(64, 1, "ab", 1, "${1:a}$1");
        Check.type(x, "q");
        Check.is("depth", Check.undoDepth(x), 1);
        Check.is("undo", x.undo(), SnippetSession.OK);
        Check.same("the session is still there", Check.selection(x), "1..2 1 1");
        Check.is("no more", x.undo(), SnippetSession.EMPTY);
        Check.type(x, "rs");
        Check.same("and works", Check.text(x), "arsrsb");
    }
}
