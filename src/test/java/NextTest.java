/** Promise 7. */
public final class NextTest {
    public static void main(String[] args) {
        refusesWithoutASession();
        selectsTheLeastAfter();
        reachesStopNine();
        skipsDeadStops();
        endsWithoutAStop();
        doesNotWrapAround();
        startsNoGroup();
        clearsMerge();
        keepsTextsAndBuffer();
        Check.finish();
    }

    private static void refusesWithoutASession() {
        Check.says("`next()` with no session answers STATE.");
        SnippetSession fresh = new SnippetSession(8, 2);
        Check.refused("fresh", fresh, fresh::next, SnippetSession.STATE);
        Check.play(fresh, "type a");
        Check.refused("merging", fresh, fresh::next, SnippetSession.STATE);
        SnippetSession noStops = Check.expanded("a$0b");
        Check.refused("after an expansion without stops", noStops, noStops::next, SnippetSession.STATE);
        for (String end : new String[] {"next", "escape", "undo"}) {
            SnippetSession x = Check.expanded("$1");
            Check.play(x, end);
            Check.refused("after " + end, x, x::next, SnippetSession.STATE);
        }
    }

    private static void selectsTheLeastAfter() {
        Check.says("if some alive stop n with a < n <= 9 exists, the least such n is selected");
        SnippetSession x = Check.expanded(64, 16, "ab", 1, "${9:i}${4:d$5}${2:b}");
        Check.same("first", Check.selection(x), "3..4 2 1");
        Check.play(x, "next");
        Check.same("second", Check.selection(x), "2..3 4 1");
        Check.play(x, "next");
        Check.same("third", Check.selection(x), "3..3 5 1");
        Check.play(x, "next");
        Check.same("fourth", Check.selection(x), "1..2 9 1");
        Check.play(x, "next");
        Check.same("end", Check.selection(x), "4..4 -1 0");
    }

    private static void reachesStopNine() {
        Check.says("if some alive stop n with a < n <= 9 exists");
        SnippetSession all = Check.expanded("$1$2$3$4$5$6$7$8$9");
        for (int n = 2; n <= 9; n++) {
            Check.play(all, "next");
            Check.is("active", Check.active(all), n);
        }
        Check.play(all, "next");
        Check.is("the end after stop 9", Check.active(all), -1);
        SnippetSession two = Check.expanded("$9$1");
        Check.play(two, "next");
        Check.is("from 1 to 9", Check.active(two), 9);
        SnippetSession nine = Check.expanded("$9");
        Check.is("from 9 alone", nine.next(), SnippetSession.OK);
        Check.is("to the end", Check.active(nine), -1);
    }

    private static void skipsDeadStops() {
        Check.says("if some alive stop n with a < n <= 9 exists, the least such n is selected");
        SnippetSession x = Check.expanded("${1:a$2${3:c}}${4:d}");
        Check.play(x, "type z", "next");
        Check.same("the stop after the dead ones", Check.selection(x), "1..2 4 1");
        SnippetSession emptied = Check.expanded("${1:a$2}${3:c}");
        Check.play(emptied, "back", "next");
        Check.is("dead by an empty text", Check.active(emptied), 3);
        SnippetSession untyped = Check.expanded("${1:a$2}");
        Check.play(untyped, "next");
        Check.is("a nested stop that is alive is visited", Check.active(untyped), 2);
    }

    private static void endsWithoutAStop() {
        Check.says("otherwise the session ends with caret = selStart = the final position.");
        SnippetSession x = Check.expanded(64, 16, "ab", 1, "$1<$0>$1");
        Check.play(x, "type xyz", "next");
        Check.same("in the middle", Check.selection(x), "5..5 -1 0");
        Check.play(x, "type !");
        Check.same("typing goes on there", Check.text(x), "axyz<!>xyzb");
        SnippetSession first = Check.expanded(64, 16, "ab", 1, "$0${1:xyz}");
        Check.play(first, "next");
        Check.same("before the stop", Check.selection(first), "1..1 -1 0");
        SnippetSession added = Check.expanded(64, 16, "ab", 1, "${1:xyz}.");
        Check.play(added, "next");
        Check.same("added at the end", Check.selection(added), "5..5 -1 0");
        SnippetSession dead = Check.expanded("${1:a$2}.");
        Check.play(dead, "type zz", "next");
        Check.same("only dead ones were left", Check.selection(dead), "3..3 -1 0");
    }

    private static void doesNotWrapAround() {
        Check.says("otherwise the session ends");
        SnippetSession x = Check.expanded("${1:a}${2:b}${3:c}");
        Check.play(x, "next", "next", "next");
        Check.is("not back to stop 1", Check.active(x), -1);
        Check.refused("and no further", x, x::next, SnippetSession.STATE);
    }

    private static void startsNoGroup() {
        Check.says("No group is started");
        SnippetSession x = Check.expanded("${1:a}${2:b}");
        Check.play(x, "type q", "next");
        Check.is("depth", Check.undoDepth(x), 2);
        Check.play(x, "next");
        Check.is("depth at the end", Check.undoDepth(x), 2);
    }

    private static void clearsMerge() {
        Check.says("merge becomes false.");
        SnippetSession x = Check.expanded("${1:a}${2:b}");
        Check.play(x, "type q", "next");
        Check.is("at the next stop", Check.merge(x), 0);
        Check.play(x, "type r", "next");
        Check.is("at the end", Check.merge(x), 0);
        Check.play(x, "type s");
        Check.is("a group each", Check.undoDepth(x), 4);
    }

    private static void keepsTextsAndBuffer() {
        Check.says("Typed flags, typed texts and the buffer do not change.");
        SnippetSession x = Check.expanded("${1:a}${2:b}$1");
        Check.play(x, "type q", "next");
        Check.is("typed", x.stopState(1), SnippetSession.TYPED);
        Check.is("untouched", x.stopState(2), SnippetSession.UNTOUCHED);
        Check.same("text", Check.text(x), "qbq");
        Check.play(x, "next");
        Check.same("text at the end", Check.text(x), "qbq");
        SnippetSession y = Check.expanded("${1:a${2:b}}$2");
        Check.play(y, "next", "type qr", "prev", "type z", "next");
        Check.same("a dead stop's text shows still", Check.text(y), "zqr");
    }
}
