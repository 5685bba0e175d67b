/** Promise 8. */
public final class PrevTest {
    public static void main(String[] args) {
        refusesWithoutASession();
        refusesAtTheFirstStop();
        visitsStopsBackwards();
        skipsDeadStops();
        keepsTextsAndHistory();
        Check.finish();
    }

    private static void refusesWithoutASession() {
        SnippetSession x = new SnippetSession(8, 2);
        Check.refused("fresh", x, x::prev, SnippetSession.STATE);
        Check.type(x, "a");
        Check.refused("merging", x, x::prev, SnippetSession.STATE);
        SnippetSession y = Check.expanded("$1");
        y.next();
        Check.refused("after the session", y, y::prev, SnippetSession.STATE);
    }

    private static void refusesAtTheFirstStop() {
        SnippetSession x = Check.expanded("${2:a}${1:b}");
        Check.refused("stop 1", x, x::prev, SnippetSession.NONE);
        SnippetSession y = Check.expanded("${5:a}${7:b}");
        Check.type(y, "q");
        Check.refused("stop 5, merging", y, y::prev, SnippetSession.NONE);
        Check.is("merge stays", Check.merge(y), 1);
    }

    private static void visitsStopsBackwards() {
        SnippetSession x = Check.expanded(64, 16, "ab", 1, "${9:i}${4:d$5}${2:b}");
        x.next();
        x.next();
        x.next();
        Check.is("prev", x.prev(), SnippetSession.OK);
        Check.same("fifth", Check.selection(x), "3..3 5 1");
        Check.is("prev", x.prev(), SnippetSession.OK);
        Check.same("fourth", Check.selection(x), "2..3 4 1");
        Check.is("prev", x.prev(), SnippetSession.OK);
        Check.same("second", Check.selection(x), "3..4 2 1");
        Check.is("prev", x.prev(), SnippetSession.NONE);
    }

    private static void skipsDeadStops() {
        SnippetSession x = Check.expanded("${4:a${2:b}$3}${1:c}${5:d}");
        x.next();
        x.next();
        x.next();
        Check.is("at stop 4", Check.active(x), 4);
        Check.type(x, "z");
        Check.is("prev", x.prev(), SnippetSession.OK);
        Check.same("past the dead ones", Check.selection(x), "1..2 1 1");
        SnippetSession y = Check.expanded("${2:a${1:b}}");
        y.next();
        Check.type(y, "z");
        Check.refused("only dead ones before", y, y::prev, SnippetSession.NONE);
    }

    private static void keepsTextsAndHistory() {
        SnippetSession x = Check.expanded("${1:a}${2:b}$2");
        x.next();
        Check.type(x, "q");
        Check.is("prev", x.prev(), SnippetSession.OK);
        Check.is("depth", Check.undoDepth(x), 2);
        Check.is("merge", Check.merge(x), 0);
        Check.is("still typed", x.stopState(2), SnippetSession.TYPED);
        Check.same("text", Check.text(x), "aqq");
    }
}
