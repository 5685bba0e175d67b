/** Promise 4; SyntaxTest and MalformedTest have its second test, the body's syntax. */
public final class ExpandTest {
    public static void main(String[] args) {
        refusesInASession();
        allowedAfterASession();
        refusesMalformedBodies();
        refusesWithoutRoom();
        fitsExactly();
        countsMirrors();
        countsDefaultsOnly();
        farTooLong();
        stateBeforeSyntaxAndRoom();
        syntaxBeforeRoom();
        emptiesTheHistory();
        emptiesAFullHistory();
        snapshotsTheStateBefore();
        replacesTheStructure();
        forgetsARefusedBody();
        clearsWhatWasTyped();
        insertsAtTheCaret();
        selectsTheLeastStop();
        startsNoSessionWithoutStops();
        clearsMerge();
        keepsTheBody();
        acceptsAnEmptyBody();
        Check.finish();
    }

    private static void refusesInASession() {
        Check.says("A session is active: STATE.");
        SnippetSession x = Check.expanded("${1:a}${2:b}");
        Check.refused("just expanded", x, x::expand, SnippetSession.STATE);
        Check.play(x, "type q");
        Check.refused("while typing", x, x::expand, SnippetSession.STATE);
        Check.play(x, "next");
        Check.refused("at the last stop", x, x::expand, SnippetSession.STATE);
        Check.play(x, "clear");
        Check.refused("with an empty body", x, x::expand, SnippetSession.STATE);
        Check.play(x, "type r", "next", "type s", "undo", "undo");
        Check.refused("in a session that undo brought back", x, x::expand, SnippetSession.STATE);
    }

    private static void allowedAfterASession() {
        Check.says("A session is active: STATE.");
        for (String end : new String[] {"next", "escape", "undo"}) {
            SnippetSession x = Check.expanded("${1:a}");
            Check.play(x, end);
            Check.is("expand after " + end, x.expand(), SnippetSession.OK);
        }
    }

    private static void refusesMalformedBodies() {
        Check.says("The body is malformed under any of the SYNTAX rules above: SYNTAX.");
        for (String body : new String[] {"$", "}", "\\", "${1:", "${", "${1", "$0$0", "${1/u}"}) {
            SnippetSession x = new SnippetSession(64, 16);
            Check.play(x, "type ab", "body " + body);
            Check.refused("expand of " + body, x, x::expand, SnippetSession.SYNTAX);
        }
    }

    private static void refusesWithoutRoom() {
        Check.says("L + |R| > capacity");
        for (int capacity : new int[] {8, 20, 64}) {
            for (int length = 1; length <= capacity; length++) {
                SnippetSession x = new SnippetSession(capacity, 4);
                Check.type(x, "a".repeat(length));
                Check.setBody(x, "r".repeat(capacity - length + 1 < 64 ? capacity - length + 1 : 64));
                Check.refused("one too many for " + length + " of " + capacity, x, x::expand, SnippetSession.FULL);
            }
        }
        SnippetSession x = new SnippetSession(8, 4);
        Check.setBody(x, "123456789");
        Check.refused("an empty buffer", x, x::expand, SnippetSession.FULL);
        SnippetSession y = new SnippetSession(8, 4);
        Check.play(y, "type abcdefgh", "caret 0", "body x");
        Check.refused("a full buffer with the caret at its start", y, y::expand, SnippetSession.FULL);
    }

    private static void fitsExactly() {
        Check.says("L + |R| > capacity");
        for (int capacity : new int[] {8, 20, 64}) {
            for (int length = 0; length <= capacity; length++) {
                SnippetSession x = new SnippetSession(capacity, 4);
                Check.type(x, "a".repeat(length));
                Check.setBody(x, "r".repeat(capacity - length));
                Check.is("just fits " + length + " of " + capacity, x.expand(), SnippetSession.OK);
                Check.same("text", Check.text(x), "a".repeat(length) + "r".repeat(capacity - length));
            }
        }
        SnippetSession stop = Check.expanded(8, 4, "abcdefgh", 4, "$1$2$0");
        Check.same("empty stops fit a full buffer", Check.selection(stop), "4..4 1 1");
    }

    private static void countsMirrors() {
        Check.says("L + |R| > capacity");
        SnippetSession x = new SnippetSession(8, 16);
        Check.setBody(x, "${1:a${2:b}}$1${1/u}$2${2/c}");
        Check.is("eight with the mirrors", x.expand(), SnippetSession.OK);
        Check.same("text", Check.text(x), "ababABbB");
        SnippetSession y = new SnippetSession(8, 16);
        Check.setBody(y, "${1:a${2:b}}$1${1/u}$2${2/c}$2");
        Check.refused("nine with the mirrors", y, y::expand, SnippetSession.FULL);
    }

    private static void countsDefaultsOnly() {
        Check.says("R is rendered with all typed flags clear");
        SnippetSession longer = Check.expanded(12, 16, "", 0, "${1:a}");
        Check.play(longer, "type 12345678", "escape", "body ${1:abcd}");
        Check.is("a longer text was typed before", longer.expand(), SnippetSession.OK);
        Check.same("text", Check.text(longer), "12345678abcd");
        SnippetSession shorter = Check.expanded(12, 16, "", 0, "${1:a}bcdefghi");
        Check.play(shorter, "type 1", "escape", "body ${1:abcd}");
        Check.refused("a shorter text was typed before", shorter, shorter::expand, SnippetSession.FULL);
    }

    private static void farTooLong() {
        Check.says("L + |R| > capacity");
        SnippetSession x = new SnippetSession(64, 16);
        Check.setBody(x, "${1:" + "a".repeat(29) + "}" + "$1".repeat(15));
        Check.refused("464 codes", x, x::expand, SnippetSession.FULL);
        SnippetSession y = new SnippetSession(64, 16);
        Check.setBody(y, "${1:" + "a".repeat(31) + "}" + "$1${1}$1".repeat(3));
        Check.refused("310 codes", y, y::expand, SnippetSession.FULL);
    }

    private static void stateBeforeSyntaxAndRoom() {
        Check.says("`expand()` tests in order");
        SnippetSession x = Check.expanded(8, 4, "", 0, "${1:a}");
        Check.setBody(x, "$");
        Check.refused("malformed in a session", x, x::expand, SnippetSession.STATE);
        Check.setBody(x, "123456789");
        Check.refused("too long in a session", x, x::expand, SnippetSession.STATE);
        Check.setBody(x, "123456789}");
        Check.refused("both in a session", x, x::expand, SnippetSession.STATE);
    }

    private static void syntaxBeforeRoom() {
        Check.says("`expand()` tests in order");
        String[] bodies = {"123456789}", "123456789$", "${1:123456789", "}123456789", "${1:12345}$1${1:}"};
        for (String body : bodies) {
            SnippetSession x = new SnippetSession(8, 16);
            Check.setBody(x, body);
            Check.refused(body, x, x::expand, SnippetSession.SYNTAX);
        }
    }

    private static void emptiesTheHistory() {
        Check.says("the history is emptied, then a group is started (so the undo depth becomes 1");
        SnippetSession x = new SnippetSession(64, 16);
        Check.play(x, "type abc", "back", "back", "type d", "body z");
        Check.is("depth before", Check.undoDepth(x), 4);
        Check.play(x, "expand");
        Check.is("depth after", Check.undoDepth(x), 1);
        Check.play(x, "expand");
        Check.is("depth after another", Check.undoDepth(x), 1);
        Check.play(x, "undo");
        Check.same("text before the last expansion", Check.text(x), "adz");
        Check.refused("nothing more", x, x::undo, SnippetSession.EMPTY);
        SnippetSession y = Check.expanded("");
        Check.is("from an empty history", Check.undoDepth(y), 1);
    }

    private static void emptiesAFullHistory() {
        Check.says("the history is emptied, then a group is started (so the undo depth becomes 1");
        for (int cap = 1; cap <= 16; cap++) {
            SnippetSession x = new SnippetSession(64, cap);
            Check.type(x, "a".repeat(30));
            for (int i = 0; i < cap; i++) {
                Check.play(x, "back");
            }
            Check.is("full at " + cap, Check.undoDepth(x), cap);
            Check.play(x, "body $1", "expand");
            Check.is("depth at " + cap, Check.undoDepth(x), 1);
            Check.play(x, "undo");
            Check.refused("nothing more", x, x::undo, SnippetSession.EMPTY);
        }
    }

    private static void snapshotsTheStateBefore() {
        Check.says("its snapshot is the state before the call");
        for (String body : new String[] {"", "xx", "$0x", "${1:xx}$1", "$5"}) {
            for (int caret = 0; caret <= 4; caret++) {
                SnippetSession x = Check.expanded(64, 1, "abcd", caret, body);
                Check.play(x, "undo");
                Check.same("text", Check.text(x), "abcd");
                Check.same("selection", Check.selection(x), caret + ".." + caret + " -1 0");
                Check.is("stop 1", x.stopState(1), SnippetSession.ABSENT);
            }
        }
    }

    private static void replacesTheStructure() {
        Check.says("the structure becomes the parsed body");
        SnippetSession x = Check.expanded("${1:a${2:b}}$0${3:c}$2");
        Check.play(x, "escape", "body ${4:d}$4", "expand");
        int[] due = {4, 0, 0, 0, 1, 0, 0, 0, 0, 0};
        for (int n = 0; n <= 9; n++) {
            Check.is("stop " + n, x.stopState(n), due[n]);
        }
        Check.play(x, "type q");
        Check.same("text", Check.text(x), "abqqcb");
        SnippetSession y = Check.expanded(8, 16, "", 0, "$1$1$1$1$1$1");
        Check.play(y, "escape", "body $1", "expand", "type 12345678");
        Check.same("the old mirrors take no room", Check.text(y), "12345678");
    }

    private static void forgetsARefusedBody() {
        Check.says("the structure becomes the parsed body");
        SnippetSession x = new SnippetSession(64, 16);
        Check.setBody(x, "$0$1${2:a${3:b");
        Check.is("malformed", x.expand(), SnippetSession.SYNTAX);
        Check.play(x, "body ${1:a}$0${2:b}$1", "expand");
        Check.same("text", Check.text(x), "aba");
        Check.same("final", Check.range(x, 0), "1..1");
        Check.is("no stop 3", x.stopState(3), SnippetSession.ABSENT);
    }

    private static void clearsWhatWasTyped() {
        Check.says("every typed flag is cleared and every typed text emptied");
        StringBuilder body = new StringBuilder();
        for (int n = 1; n <= 9; n++) {
            body.append("${").append(n).append(":d}");
        }
        SnippetSession x = Check.expanded(64, 16, "", 0, body.toString());
        for (int n = 1; n <= 9; n++) {
            Check.play(x, n % 2 == 0 ? "back" : "type xy", "next");
        }
        Check.play(x, "expand");
        for (int n = 1; n <= 9; n++) {
            Check.is("stop " + n, x.stopState(n), SnippetSession.UNTOUCHED);
        }
        Check.same("defaults again", Check.text(x), "xyxyxyxyxy" + "d".repeat(9));
        Check.play(x, "type q");
        Check.same("nothing of the old text", Check.text(x), "xyxyxyxyxy" + "q" + "d".repeat(8));
    }

    private static void insertsAtTheCaret() {
        Check.says("the buffer becomes B[0..p) + R + B[p..L) with p = caret");
        for (int p = 0; p <= 4; p++) {
            SnippetSession x = Check.expanded(64, 16, "abcd", p, "<${2:two}|${1:one}|$0|${2/u}>");
            Check.same("at " + p, Check.text(x), "abcd".substring(0, p) + "<two|one||TWO>" + "abcd".substring(p));
            Check.same("stop 2", Check.range(x, 2), (p + 1) + ".." + (p + 4));
            Check.same("final", Check.range(x, 0), (p + 9) + ".." + (p + 9));
        }
    }

    private static void selectsTheLeastStop() {
        Check.says("If some stop in 1..9 is present, a session becomes active and the least present stop is selected.");
        for (int n = 1; n <= 9; n++) {
            SnippetSession alone = Check.expanded("-${" + n + ":ab}");
            Check.same("alone", Check.selection(alone), "1..3 " + n + " 1");
            if (n < 9) {
                SnippetSession behind = Check.expanded("${9:i}${" + n + ":ab}");
                Check.same("behind a greater one", Check.selection(behind), "1..3 " + n + " 1");
                SnippetSession inside = Check.expanded("${9:i${" + n + ":ab}}");
                Check.same("inside a greater one", Check.selection(inside), "1..3 " + n + " 1");
            }
        }
    }

    private static void startsNoSessionWithoutStops() {
        Check.says("Otherwise there is no session and caret = selStart = the final position.");
        SnippetSession middle = Check.expanded(64, 16, "abcd", 1, "x$0yz");
        Check.same("in the middle", Check.selection(middle), "2..2 -1 0");
        SnippetSession start = Check.expanded(64, 16, "abcd", 1, "$0xyz");
        Check.same("at the start", Check.selection(start), "1..1 -1 0");
        SnippetSession added = Check.expanded(64, 16, "abcd", 1, "xyz");
        Check.same("after all items", Check.selection(added), "4..4 -1 0");
        Check.is("no session, so it can be expanded again", added.expand(), SnippetSession.OK);
        Check.same("twice", Check.text(added), "axyzxyzbcd");
        SnippetSession only = Check.expanded("$0");
        Check.same("nothing but the final stop", Check.selection(only), "0..0 -1 0");
    }

    private static void clearsMerge() {
        Check.says("merge becomes false.");
        for (String body : new String[] {"", "x", "$1"}) {
            SnippetSession x = new SnippetSession(64, 16);
            Check.play(x, "body " + body, "type ab");
            Check.is("merge before", Check.merge(x), 1);
            Check.play(x, "expand");
            Check.is("merge after", Check.merge(x), 0);
            Check.play(x, "type c");
            Check.is("typing starts a group", Check.undoDepth(x), 2);
        }
    }

    private static void keepsTheBody() {
        Check.says("The body is unchanged.");
        for (String body : new String[] {"", "x", "${1:a}$1$0", "x".repeat(64)}) {
            SnippetSession x = Check.expanded(body);
            Check.same("the body", Check.body(x), body);
        }
    }

    private static void acceptsAnEmptyBody() {
        Check.says("An empty body is well formed: it has only the added final stop, R is empty, and no session"
                + " starts.");
        SnippetSession fresh = new SnippetSession(8, 1);
        Check.is("a fresh object", fresh.expand(), SnippetSession.OK);
        Check.same("text", Check.text(fresh), "");
        Check.same("selection", Check.selection(fresh), "0..0 -1 0");
        Check.is("depth", Check.undoDepth(fresh), 1);
        SnippetSession full = Check.expanded(8, 16, "abcdefgh", 3, "");
        Check.same("a full buffer", Check.text(full), "abcdefgh");
        Check.same("its selection", Check.selection(full), "3..3 -1 0");
        for (int n = 0; n <= 9; n++) {
            Check.is("stop " + n, full.stopState(n), SnippetSession.ABSENT);
        }
        SnippetSession cleared = Check.expanded("${1:a}");
        Check.play(cleared, "escape", "clear", "expand");
        Check.same("after clearSnippet", Check.selection(cleared), "1..1 -1 0");
    }
}
