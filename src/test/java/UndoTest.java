/** Promise 11. */
public final class UndoTest {
    public static void main(String[] args) {
        refusesAnEmptyHistory();
        popsTheTop();
        restoresPlainEdits();
        restoresAFullBuffer();
        restoresASession();
        restoresTypedTexts();
        restoresFullTexts();
        restoresTheSelectedFlag();
        bringsBackAnEndedSession();
        undoesAnExpansion();
        keepsStructureAndBody();
        clearsMerge();
        keepsTheEquation();
        keepsStopsAndMirrors();
        undoesAWholeExpansion();
        undoesAWholeExpansionInPieces();
        undoesAtEveryCap();
        losesTheExpansionBeyondTheCap();
        undoesTheLastExpansionOnly();
        endsEmpty();
        Check.finish();
    }

    private static void refusesAnEmptyHistory() {
        Check.says("`undo()` with an empty history answers EMPTY.");
        SnippetSession x = new SnippetSession(8, 2);
        Check.refused("fresh", x, x::undo, SnippetSession.EMPTY);
        Check.play(x, "type a", "undo");
        Check.refused("all undone", x, x::undo, SnippetSession.EMPTY);
        SnippetSession ended = Check.expanded("${1:a}");
        Check.play(ended, "undo");
        Check.refused("the expansion undone", ended, ended::undo, SnippetSession.EMPTY);
        SnippetSession inSession = Check.expanded(64, 1, "", 0, "${1:a}");
        Check.play(inSession, "type q", "undo");
        Check.refused("in a session", inSession, inSession::undo, SnippetSession.EMPTY);
        SnippetSession moved = new SnippetSession(8, 2);
        Check.play(moved, "caret 0", "feed 65", "clear");
        Check.refused("after calls that start no group", moved, moved::undo, SnippetSession.EMPTY);
    }

    private static void popsTheTop() {
        Check.says("Otherwise the top snapshot is popped (the undo depth goes down by 1)");
        SnippetSession x = new SnippetSession(20, 16);
        Check.type(x, "abcdefgh");
        for (int i = 0; i < 8; i++) {
            Check.play(x, "back");
        }
        for (int left = 8; left >= 0; left--) {
            Check.is("undo", x.undo(), SnippetSession.OK);
            Check.is("depth", Check.undoDepth(x), left);
            Check.same("text", Check.text(x), left == 0 ? "" : "abcdefgh".substring(0, 9 - left));
        }
    }

    private static void restoresPlainEdits() {
        Check.says("every part it holds is restored: buffer, caret, selStart");
        SnippetSession x = new SnippetSession(20, 8);
        Check.play(x, "type abcd", "caret 2", "type xy", "caret 5", "back");
        Check.same("text", Check.text(x), "abxyd");
        Check.play(x, "undo");
        Check.same("backspace undone", Check.text(x), "abxycd");
        Check.same("selection", Check.selection(x), "5..5 -1 0");
        Check.play(x, "undo");
        Check.same("typing undone", Check.text(x), "abcd");
        Check.same("its selection", Check.selection(x), "2..2 -1 0");
        Check.play(x, "undo");
        Check.same("all undone", Check.text(x), "");
    }

    private static void restoresAFullBuffer() {
        Check.says("every part it holds is restored: buffer, caret, selStart");
        SnippetSession x = new SnippetSession(64, 16);
        for (int i = 0; i < 64; i++) {
            Check.is("typeChar", x.typeChar(63 + i), SnippetSession.OK);
        }
        String full = Check.text(x);
        for (int i = 0; i < 15; i++) {
            Check.play(x, "back");
        }
        Check.is("a full history", Check.undoDepth(x), 16);
        for (int i = 0; i < 15; i++) {
            Check.play(x, "undo");
            Check.same("undone", Check.text(x), full.substring(0, 50 + i));
        }
        Check.play(x, "undo");
        Check.same("all undone", Check.text(x), "");
    }

    private static void restoresASession() {
        Check.says("whether a session is active, active stop, selected flag, every stop's typed flag and typed text.");
        SnippetSession x = Check.expanded(64, 16, "ab", 1, "${1:a${2:b}}|$2|${1/u}");
        Check.play(x, "next", "type qr", "prev");
        String before = Check.whole(x);
        Check.play(x, "type zz", "back");
        Check.is("stop 2 is dead", x.stopState(2), SnippetSession.DEAD);
        Check.play(x, "undo");
        Check.same("text", Check.text(x), "azz|qr|ZZb");
        Check.same("selection", Check.selection(x), "3..3 1 0");
        Check.play(x, "undo");
        Check.same("all as before", Check.whole(x), before);
        Check.play(x, "undo");
        Check.same("text at first", Check.text(x), "aab|b|ABb");
        Check.same("selection at first", Check.selection(x), "2..3 2 1");
        Check.is("stop 2", x.stopState(2), SnippetSession.UNTOUCHED);
    }

    private static void restoresTypedTexts() {
        Check.says("every stop's typed flag and typed text.");
        SnippetSession x = Check.expanded("${1:a}${2:b}$2$1");
        Check.play(x, "type xyz", "next", "type pq", "prev", "type mno", "undo");
        Check.same("text", Check.text(x), "xyzpqpqxyz");
        Check.play(x, "next", "type s");
        Check.same("the text of stop 1 came back too", Check.text(x), "xyzssxyz");
        SnippetSession all = Check.expanded("$1$2$3$4$5$6$7$8$9");
        for (int n = 1; n <= 9; n++) {
            Check.play(all, "type " + n, "next");
        }
        Check.play(all, "undo");
        for (int n = 1; n <= 9; n++) {
            Check.is("stop " + n, all.stopState(n), n < 9 ? SnippetSession.TYPED : SnippetSession.UNTOUCHED);
        }
        Check.same("texts", Check.text(all), "12345678");
    }

    private static void restoresFullTexts() {
        Check.says("every stop's typed flag and typed text.");
        SnippetSession x = Check.expanded("$1$2$3$4$5$6$9");
        for (int n = 1; n <= 7; n++) {
            Check.play(x, "type " + n + "bcdefgh", n < 7 ? "next" : "feed 65");
        }
        String full = Check.text(x);
        for (int i = 1; i <= 8; i++) {
            Check.play(x, "back");
        }
        Check.is("a full history", Check.undoDepth(x), 16);
        for (int i = 1; i <= 8; i++) {
            Check.play(x, "undo");
            Check.same("undone", Check.text(x), full.substring(0, 48 + i));
        }
        Check.play(x, "undo", "undo");
        Check.same("at the stop before", Check.selection(x), "40..40 6 1");
        Check.same("seven less two", Check.text(x), full.substring(0, 40));
    }

    private static void restoresTheSelectedFlag() {
        Check.says("selected flag");
        SnippetSession x = Check.expanded("${1:ab}");
        Check.play(x, "type q", "undo");
        Check.same("selected", Check.selection(x), "0..2 1 1");
        Check.play(x, "type q", "back", "undo");
        Check.same("not selected", Check.selection(x), "1..1 1 0");
    }

    private static void bringsBackAnEndedSession() {
        Check.says("whether a session is active, active stop");
        SnippetSession x = Check.expanded(64, 16, "ab", 1, "${1:a}|$1|${2:c}");
        Check.play(x, "type q", "next", "type r", "next", "type tail", "caret 0", "type head");
        Check.same("text", Check.text(x), "headaq|q|rtailb");
        Check.play(x, "undo", "undo");
        Check.same("no session yet", Check.selection(x), "6..6 -1 0");
        Check.play(x, "undo");
        Check.same("at stop 2 again", Check.selection(x), "5..6 2 1");
        Check.play(x, "prev", "type xyz");
        Check.same("the mirror follows", Check.text(x), "axyz|xyz|cb");
    }

    private static void undoesAnExpansion() {
        Check.says("whether a session is active");
        SnippetSession x = Check.expanded(64, 16, "ab", 1, "${1:a}");
        Check.play(x, "undo");
        Check.same("no session", Check.selection(x), "1..1 -1 0");
        Check.same("text", Check.text(x), "ab");
        Check.refused("no stop to go to", x, x::next, SnippetSession.STATE);
        Check.play(x, "type q", "undo");
        Check.same("plain editing goes on", Check.text(x), "ab");
    }

    private static void keepsStructureAndBody() {
        Check.says("The structure and the body are not part of a snapshot and stay.");
        SnippetSession x = Check.expanded("${1:a}$1");
        Check.play(x, "type q", "body other", "undo");
        Check.same("body", Check.body(x), "other");
        Check.play(x, "type rs");
        Check.same("structure", Check.text(x), "rsrs");
        SnippetSession y = new SnippetSession(64, 16);
        Check.play(y, "body $", "type q", "clear", "undo");
        Check.same("a cleared body stays empty", Check.body(y), "");
    }

    private static void clearsMerge() {
        Check.says("merge becomes false. The answer is OK.");
        SnippetSession x = new SnippetSession(20, 8);
        Check.play(x, "type ab", "caret 2", "type cd");
        Check.is("merge before", Check.merge(x), 1);
        Check.play(x, "undo");
        Check.is("merge after", Check.merge(x), 0);
        Check.play(x, "type e");
        Check.is("typing starts a group", Check.undoDepth(x), 2);
        Check.play(x, "undo");
        Check.same("and it alone is undone", Check.text(x), "ab");
        SnippetSession empty = new SnippetSession(20, 8);
        Check.play(empty, "type a", "undo", "type b");
        Check.is("a group after all was undone", Check.undoDepth(empty), 1);
    }

    private static void keepsTheEquation() {
        Check.says("whenever a session is active, the buffer equals B[0..p) + R + B[p..L) with R the render of that"
                + " expansion's structure under the current typed flags and texts");
        SnippetSession x = Check.expanded(64, 16, "AB", 1, "${1:a}-$1");
        Check.play(x, "type q", "escape", "caret 0", "type zz", "caret 6", "back", "back");
        Check.same("edited around", Check.text(x), "zzAqB");
        Check.play(x, "body ${2:other}$");
        Check.is("a refused expansion between", x.expand(), SnippetSession.SYNTAX);
        Check.play(x, "undo", "undo", "undo", "undo");
        Check.same("in the session again", Check.text(x), "Aa-aB");
        Check.play(x, "type rs");
        Check.same("it follows", Check.text(x), "Ars-rsB");
    }

    private static void keepsStopsAndMirrors() {
        Check.says("for every alive stop n the characters from stopPos(n,0) up to stopPos(n,1) - 1 form text(primary"
                + " of n)");
        SnippetSession x = Check.expanded(64, 16, "AB", 1, "${3:c${1:a}}-${2:b}-$1${2/u}");
        Check.play(x, "type xyz", "next", "type pq", "next", "type m", "undo");
        Check.same("stop 1", stopText(x, 1), "xyz");
        Check.same("stop 2", stopText(x, 2), "pq");
        Check.same("stop 3", stopText(x, 3), "cxyz");
        Check.play(x, "undo");
        Check.same("stop 2, undone", stopText(x, 2), "b");
        Check.same("its mirror, undone", Check.text(x), "Acxyz-b-xyzBB");
    }

    private static String stopText(SnippetSession x, int n) {
        return Check.text(x).substring(x.stopPos(n, 0), x.stopPos(n, 1));
    }

    /** Undoes as often as the depth tells, down to the buffer and the caret before the expansion. */
    private static void undoAll(SnippetSession x, String before, int caret) {
        int depth = Check.undoDepth(x);
        for (int i = 0; i < depth; i++) {
            Check.is("undo " + (i + 1) + " of " + depth, x.undo(), SnippetSession.OK);
        }
        Check.same("text", Check.text(x), before);
        Check.same("selection", Check.selection(x), caret + ".." + caret + " -1 0");
        Check.is("depth", Check.undoDepth(x), 0);
        Check.refused("one more", x, x::undo, SnippetSession.EMPTY);
    }

    private static void undoesAWholeExpansion() {
        Check.says("then calling undo exactly info(INFO_UNDO_DEPTH) times answers OK every time");
        SnippetSession x = Check.expanded(64, 16, "before", 3, "${1:a${2:b}}$1${2/u}");
        Check.play(x, "next", "type xy", "back", "prev", "type q", "next", "type end");
        Check.is("depth", Check.undoDepth(x), 5);
        undoAll(x, "before", 3);
        for (int caret = 0; caret <= 6; caret++) {
            SnippetSession alone = Check.expanded(64, 16, "before", caret, "${1:a}");
            undoAll(alone, "before", caret);
        }
    }

    private static void undoesAWholeExpansionInPieces() {
        Check.says("If, in addition, the snapshot pushed by that expansion has not yet been popped by undo");
        SnippetSession x = Check.expanded(64, 4, "AB", 1, "${1:a}$1");
        Check.play(x, "type q", "back", "type r");
        Check.is("full, nothing dropped", Check.undoDepth(x), 4);
        Check.play(x, "undo", "undo", "type s", "escape", "type t");
        Check.is("full again", Check.undoDepth(x), 4);
        Check.setBody(x, "$");
        Check.is("a refused expansion between", x.expand(), SnippetSession.SYNTAX);
        undoAll(x, "AB", 1);
    }

    private static void undoesAtEveryCap() {
        Check.says("no group started since that expansion found the history already holding info(INFO_HISTORY_CAP)"
                + " snapshots");
        for (int cap = 1; cap <= 16; cap++) {
            for (int groups = 0; groups < cap; groups++) {
                SnippetSession x = Check.expanded(64, cap, "ABCD", 2, "${1:a}$1");
                for (int i = 0; i < groups; i++) {
                    Check.play(x, i % 2 == 0 ? "back" : "type xy");
                }
                Check.is("groups beside the expansion's", Check.undoDepth(x), groups + 1);
                undoAll(x, "ABCD", 2);
            }
        }
    }

    private static void losesTheExpansionBeyondTheCap() {
        Check.says("no group started since that expansion found the history already holding info(INFO_HISTORY_CAP)"
                + " snapshots");
        SnippetSession x = Check.expanded(64, 1, "ab", 1, "${1:a}$1");
        Check.play(x, "type q");
        Check.is("depth", Check.undoDepth(x), 1);
        Check.play(x, "undo");
        Check.same("the session is still there", Check.selection(x), "1..2 1 1");
        Check.refused("no more", x, x::undo, SnippetSession.EMPTY);
        Check.play(x, "type rs");
        Check.same("and works", Check.text(x), "arsrsb");
    }

    private static void undoesTheLastExpansionOnly() {
        Check.says("After a successful expand, as long as no successful expand follows");
        SnippetSession x = Check.expanded(64, 16, "AB", 1, "${1:a}$1");
        Check.play(x, "type q", "escape", "body <${2:c}>", "expand", "type r");
        Check.same("text", Check.text(x), "Aq<r>qB");
        undoAll(x, "AqqB", 2);
    }

    private static void endsEmpty() {
        Check.says("after which the buffer equals B, info(INFO_CARET) = info(INFO_SEL_START) = p, info(INFO_ACTIVE) ="
                + " -1 and info(INFO_UNDO_DEPTH) = 0; one more undo answers EMPTY.");
        String base = "abcdefgh";
        for (int length = 0; length <= 8; length++) {
            for (int caret = 0; caret <= length; caret++) {
                SnippetSession x = Check.expanded(20, 16, base.substring(0, length), caret, "${1:a}-$1");
                Check.play(x, "type xy", "back", "next", "type z", "caret 0", "type z");
                undoAll(x, base.substring(0, length), caret);
            }
        }
    }
}
