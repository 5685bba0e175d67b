/** Promise 7. */
public final class NextTest {
    public static void main(String[] args) {
        refusesWithoutASession();
        visitsStopsInOrder();
        skipsDeadStops();
        endsAtTheFinalStop();
        keepsTextsAndHistory();
        Check.finish();
    }

    private static void refusesWithoutASession() {
        SnippetSession x = new SnippetSession(8, 2);
        Check.refused("fresh", x, x::next, SnippetSession.STATE);
        Check.type(x, "a");
        Check.refused("merging", x, x::next, SnippetSession.STATE);
        SnippetSession y = Check.expanded("$1");
        y.next();
        Check.refused("after the session", y, y::next, SnippetSession.STATE);
    }

    private static void visitsStopsInOrder() {
        SnippetSession x = Check.expanded(64, 16, "ab", 1, "${9:i}${4:d$5}${2:b}");
        Check.same("first", Check.selection(x), "3..4 2 1");
        Check.is("next", x.next(), SnippetSession.OK);
        Check.same("second", Check.selection(x), "2..3 4 1");
        Check.is("next", x.next(), SnippetSession.OK);
        Check.same("third", Check.selection(x), "3..3 5 1");
        Check.is("next", x.next(), SnippetSession.OK);
        Check.same("ninth", Check.selection(x), "1..2 9 1");
        Check.is("next", x.next(), SnippetSession.OK);
        Check.same("end", Check.selection(x), "4..4 -1 0");
    }

    private static void skipsDeadStops() {
        SnippetSession x = Check.expanded("${1:a$2${3:c}}${4:d}");
        Check.type(x, "z");
        Check.is("next", x.next(), SnippetSession.OK);
        Check.same("the stop after the dead ones", Check.selection(x), "1..2 4 1");
        SnippetSession y = Check.expanded("${1:a$2}.");
        Check.type(y, "zz");
        Check.is("next", y.next(), SnippetSession.OK);
        Check.same("only dead ones were left", Check.selection(y), "3..3 -1 0");
    }

    private static void endsAtTheFinalStop() {
        SnippetSession x = Check.expanded(64, 16, "ab", 1, "$1<$0>$1");
        Check.type(x, "xyz");
        Check.is("next", x.next(), SnippetSession.OK);
        Check.same("selection", Check.selection(x), "5..5 -1 0");
        Check.same("text", Check.text(x), "axyz<>xyzb");
        Check.is("the stops are gone", x.stopState(1), SnippetSession.ABSENT);
        Check.type(x, "!");
        Check.same("typing goes on there", Check.text(x), "axyz<!>xyzb");
    }

    private static void keepsTextsAndHistory() {
        SnippetSession x = Check.expanded("${1:a}${2:b}$1");
        Check.type(x, "q");
        Check.is("next", x.next(), SnippetSession.OK);
        Check.is("depth", Check.undoDepth(x), 2);
        Check.is("merge", Check.merge(x), 0);
        Check.is("still typed", x.stopState(1), SnippetSession.TYPED);
        Check.same("text", Check.text(x), "qbq");
        Check.type(x, "r");
        Check.is("next", x.next(), SnippetSession.OK);
        Check.is("depth at the end", Check.undoDepth(x), 3);
        Check.is("merge at the end", Check.merge(x), 0);
    }
}
