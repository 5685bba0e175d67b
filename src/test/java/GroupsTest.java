/** "Groups". */
public final class GroupsTest {
    public static void main(String[] args) {
        dropsTheOldest();
        dropsTheOldestInASession();
        snapshotsTheStateBefore();
        typingStartsAGroupOnce();
        otherCallsClearMerge();
        refusedCallsKeepMerge();
        feedClearAndGettersKeepMerge();
        Check.finish();
    }

    private static void dropsTheOldest() {
        Check.says("if the history holds historyCap snapshots, the oldest is dropped");
        for (int cap = 1; cap <= 16; cap++) {
            SnippetSession x = new SnippetSession(64, cap);
            Check.type(x, "a".repeat(30));
            for (int i = 1; i < cap; i++) {
                Check.play(x, "back");
            }
            Check.is("all of " + cap + " are held", Check.undoDepth(x), cap);
            Check.play(x, "back");
            Check.is("still " + cap, Check.undoDepth(x), cap);
            for (int i = 0; i < cap; i++) {
                Check.play(x, "undo");
            }
            Check.is("only the oldest is lost", Check.length(x), 30);
            Check.refused("no more", x, x::undo, SnippetSession.EMPTY);
        }
    }

    private static void dropsTheOldestInASession() {
        Check.says("if the history holds historyCap snapshots, the oldest is dropped");
        SnippetSession x = Check.expanded(64, 2, "AB", 1, "${1:a}${2:b}$1");
        Check.play(x, "type q");
        Check.is("both are held", Check.undoDepth(x), 2);
        Check.play(x, "next", "type r");
        Check.is("still two", Check.undoDepth(x), 2);
        Check.play(x, "undo", "undo");
        Check.same("the expansion's is lost", Check.text(x), "AabaB");
        Check.same("its session is there", Check.selection(x), "1..2 1 1");
        Check.refused("no more", x, x::undo, SnippetSession.EMPTY);
    }

    private static void snapshotsTheStateBefore() {
        Check.says("then a snapshot of the state as it was before the call is pushed");
        for (String[] state : Twin.STATES) {
            for (String call : new String[] {"type q", "back"}) {
                SnippetSession x = Twin.make(state);
                if (Check.merge(x) == 1 && call.startsWith("type")) {
                    continue;
                }
                String before = Check.whole(x);
                if (Steps.take(x, call) == SnippetSession.OK) {
                    Check.play(x, "undo");
                    // merge and, at a full history, the depth are not part of a snapshot.
                    Check.same(call + " after " + String.join(", ", state), withoutHistory(Check.whole(x)),
                            withoutHistory(before));
                }
            }
        }
    }

    /** The text of Check.whole with the undo depth and merge left out. */
    private static String withoutHistory(String whole) {
        return whole.replaceFirst("(info \\d+ \\d+ \\d+ -?\\d+ \\d+) \\d+ (\\d+) \\d", "$1 _ $2 _");
    }

    private static void typingStartsAGroupOnce() {
        Check.says("A successful typeChar starts a group only if merge is false, and then sets merge to true.");
        SnippetSession x = new SnippetSession(20, 4);
        for (int i = 0; i < 10; i++) {
            Check.play(x, "type a");
            Check.is("one group", Check.undoDepth(x), 1);
            Check.is("merge", Check.merge(x), 1);
        }
        SnippetSession y = Check.expanded("${1:a}");
        Check.is("merge after expand", Check.merge(y), 0);
        for (int i = 0; i < 8; i++) {
            Check.play(y, "type a");
            Check.is("one group beside the expansion's", Check.undoDepth(y), 2);
            Check.is("merge in a session", Check.merge(y), 1);
        }
    }

    private static void otherCallsClearMerge() {
        Check.says("Every other successful call, except feed, clearSnippet and the getters, sets merge to false.");
        for (String call : new String[] {"back", "undo", "caret 0", "caret 2", "expand"}) {
            SnippetSession x = new SnippetSession(20, 8);
            Check.play(x, "body $0", "type ab");
            Check.is("merge before " + call, Check.merge(x), 1);
            Check.play(x, call);
            Check.is("merge after " + call, Check.merge(x), 0);
        }
        for (String call : new String[] {"back", "undo", "next", "prev", "escape"}) {
            SnippetSession x = Check.expanded("${1:a}${2:b}${3:c}");
            Check.play(x, "next", "type q");
            Check.is("merge in a session before " + call, Check.merge(x), 1);
            Check.play(x, call);
            Check.is("merge in a session after " + call, Check.merge(x), 0);
        }
        SnippetSession last = Check.expanded("${1:a}");
        Check.play(last, "type q", "next");
        Check.is("merge after the last next", Check.merge(last), 0);
    }

    private static void refusedCallsKeepMerge() {
        Check.says("Every other successful call");
        SnippetSession x = new SnippetSession(20, 8);
        Check.play(x, "body $", "type ab");
        String[] calls = {"next", "prev", "escape", "caret 3", "caret -1", "expand", "code 31", "feed 31"};
        for (String call : calls) {
            Check.same(call + " is refused", Steps.take(x, call) < 0, true);
            Check.is("merge after " + call, Check.merge(x), 1);
        }
        Check.play(x, "type c");
        Check.is("one group", Check.undoDepth(x), 1);
        SnippetSession y = Check.expanded("${1:a}");
        Check.play(y, "type 12345678");
        for (String call : new String[] {"prev", "caret 0", "expand", "code 31", "code 65", "feed 127"}) {
            Check.same(call + " is refused", Steps.take(y, call) < 0, true);
            Check.is("merge in a session after " + call, Check.merge(y), 1);
        }
    }

    private static void feedClearAndGettersKeepMerge() {
        Check.says("except feed, clearSnippet and the getters");
        SnippetSession plain = new SnippetSession(20, 8);
        SnippetSession inSession = Check.expanded("${1:a}");
        for (SnippetSession x : new SnippetSession[] {plain, inSession}) {
            Check.play(x, "type a");
            int depth = Check.undoDepth(x);
            Check.play(x, "feed 65");
            Check.is("merge after feed", Check.merge(x), 1);
            x.clearSnippet();
            Check.is("merge after clearSnippet", Check.merge(x), 1);
            Check.whole(x);
            Check.is("merge after the getters", Check.merge(x), 1);
            Check.play(x, "type b");
            Check.is("one group", Check.undoDepth(x), depth);
        }
    }
}
