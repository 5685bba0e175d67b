/** Promise 8. */
public final class PrevTest {
    public static void main(String[] args) {
        refusesWithoutASession();
        selectsTheGreatestBefore();
        reachesStopOne();
        skipsDeadStops();
        refusesAtTheFirstStop();
        doesNotWrapAround();
        startsNoGroup();
        clearsMerge();
        keepsTextsAndBuffer();
        Check.finish();
    }

    private static void refusesWithoutASession() {
        Check.says("`prev()` with no session answers STATE.");
        SnippetSession fresh = new SnippetSession(8, 2);
        Check.refused("fresh", fresh, fresh::prev, SnippetSession.STATE);
        Check.play(fresh, "type a");
        Check.refused("merging", fresh, fresh::prev, SnippetSession.STATE);
        SnippetSession noStops = Check.expanded("a$0b");
        Check.refused("after an expansion without stops", noStops, noStops::prev, SnippetSession.STATE);
        for (String end : new String[] {"next", "escape", "undo"}) {
            SnippetSession x = Check.expanded("$1");
            Check.play(x, end);
            Check.refused("after " + end, x, x::prev, SnippetSession.STATE);
        }
    }

    private static void selectsTheGreatestBefore() {
        Check.says("Otherwise the greatest alive stop n with 1 <= n < active is selected and the answer is OK");
        SnippetSession x = Check.expanded(64, 16, "ab", 1, "${9:i}${4:d$5}${2:b}");
        Check.play(x, "next", "next", "next", "prev");
        Check.same("fifth", Check.selection(x), "3..3 5 1");
        Check.play(x, "prev");
        Check.same("fourth", Check.selection(x), "2..3 4 1");
        Check.play(x, "prev");
        Check.same("second", Check.selection(x), "3..4 2 1");
    }

    private static void reachesStopOne() {
        Check.says("Otherwise the greatest alive stop n with 1 <= n < active is selected");
        SnippetSession all = Check.expanded("$1$2$3$4$5$6$7$8$9");
        for (int n = 2; n <= 9; n++) {
            Check.play(all, "next");
        }
        for (int n = 8; n >= 1; n--) {
            Check.play(all, "prev");
            Check.is("active", Check.active(all), n);
        }
        SnippetSession two = Check.expanded("$9$1");
        Check.play(two, "next", "prev");
        Check.is("from 9 to 1", Check.active(two), 1);
    }

    private static void skipsDeadStops() {
        Check.says("Otherwise the greatest alive stop n with 1 <= n < active is selected");
        SnippetSession x = Check.expanded("${4:a${2:b}$3}${1:c}${5:d}");
        Check.play(x, "next", "next", "next", "type z", "prev");
        Check.same("past the dead ones", Check.selection(x), "1..2 1 1");
        SnippetSession y = Check.expanded("${4:a${2:b}$3}${1:c}");
        Check.play(y, "next", "next", "next", "back", "prev");
        Check.is("dead by an empty text", Check.active(y), 1);
    }

    private static void refusesAtTheFirstStop() {
        Check.says("if there is none the answer is NONE and nothing changes.");
        SnippetSession one = Check.expanded("${2:a}${1:b}");
        Check.refused("stop 1", one, one::prev, SnippetSession.NONE);
        SnippetSession five = Check.expanded("${5:a}${7:b}");
        Check.play(five, "type q");
        Check.refused("the least present stop, merging", five, five::prev, SnippetSession.NONE);
        Check.is("merge stays", Check.merge(five), 1);
        SnippetSession nine = Check.expanded("$9");
        Check.refused("stop 9 alone", nine, nine::prev, SnippetSession.NONE);
        SnippetSession dead = Check.expanded("${2:a${1:b}}");
        Check.play(dead, "next", "type z");
        Check.refused("only dead ones before", dead, dead::prev, SnippetSession.NONE);
    }

    private static void doesNotWrapAround() {
        Check.says("if there is none the answer is NONE and nothing changes.");
        SnippetSession x = Check.expanded("$0${1:a}${2:b}${9:c}");
        Check.refused("not to the greatest, nor to the final stop", x, x::prev, SnippetSession.NONE);
        Check.is("active", Check.active(x), 1);
    }

    private static void startsNoGroup() {
        Check.says("No group is started");
        SnippetSession x = Check.expanded("${1:a}${2:b}");
        Check.play(x, "next", "type q", "prev");
        Check.is("depth", Check.undoDepth(x), 2);
    }

    private static void clearsMerge() {
        Check.says("on success merge becomes false.");
        SnippetSession x = Check.expanded("${1:a}${2:b}");
        Check.play(x, "next", "type q", "prev");
        Check.is("merge", Check.merge(x), 0);
        Check.play(x, "type r");
        Check.is("a group each", Check.undoDepth(x), 3);
    }

    private static void keepsTextsAndBuffer() {
        Check.says("Typed flags, typed texts and the buffer do not change.");
        SnippetSession x = Check.expanded("${1:a}${2:b}$2");
        Check.play(x, "next", "type qr", "prev");
        Check.is("typed", x.stopState(2), SnippetSession.TYPED);
        Check.is("untouched", x.stopState(1), SnippetSession.UNTOUCHED);
        Check.same("text", Check.text(x), "aqrqr");
    }
}
