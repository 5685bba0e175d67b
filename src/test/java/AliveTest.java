/** "Alive and dead". */
public final class AliveTest {
    public static void main(String[] args) {
        eachLevel();
        emptyTextKills();
        itsOwnFlag();
        neighbours();
        notPresent();
        mirrorsDoNotCount();
        undoRevives();
        deadStopsKeepTheirTexts();
        Check.finish();
    }

    private static void eachLevel() {
        Check.says("Stop n in 1..9 is ALIVE if present and no placeholder enclosing its primary belongs to a stop"
                + " whose typed flag is set; a present stop that is not alive is DEAD.");
        for (int typed = 1; typed <= 5; typed++) {
            SnippetSession x = Check.expanded("${1:a${2:b${3:c${4:d$5}}}}");
            for (int n = 1; n < typed; n++) {
                Check.play(x, "next");
            }
            Check.play(x, "type q");
            for (int n = 1; n <= 5; n++) {
                int other = n < typed ? SnippetSession.UNTOUCHED : SnippetSession.DEAD;
                Check.is("stop " + n + " with " + typed + " typed", x.stopState(n),
                        n == typed ? SnippetSession.TYPED : other);
            }
        }
    }

    private static void emptyTextKills() {
        Check.says("no placeholder enclosing its primary belongs to a stop whose typed flag is set");
        SnippetSession x = Check.expanded("${1:a${2:b}$3}");
        Check.play(x, "back");
        Check.is("a flag with an empty text", x.stopState(2), SnippetSession.DEAD);
        Check.is("a reference in it", x.stopState(3), SnippetSession.DEAD);
        SnippetSession y = Check.expanded("${1:$2}");
        Check.play(y, "back");
        Check.is("an empty default", y.stopState(2), SnippetSession.DEAD);
    }

    private static void itsOwnFlag() {
        Check.says("no placeholder enclosing its primary");
        SnippetSession x = Check.expanded("${1:a}");
        Check.play(x, "type q");
        Check.is("does not enclose itself", x.stopState(1), SnippetSession.TYPED);
    }

    private static void neighbours() {
        Check.says("no placeholder enclosing its primary");
        SnippetSession x = Check.expanded("${2:a}${1:b${4:c}}${3:d}$5");
        Check.play(x, "type q");
        Check.is("one before", x.stopState(2), SnippetSession.UNTOUCHED);
        Check.is("one inside", x.stopState(4), SnippetSession.DEAD);
        Check.is("one just behind", x.stopState(3), SnippetSession.UNTOUCHED);
        Check.is("one later", x.stopState(5), SnippetSession.UNTOUCHED);
        SnippetSession y = Check.expanded("${3:${1:a}${2:b}}");
        Check.play(y, "type q");
        Check.is("a sibling in the same placeholder", y.stopState(2), SnippetSession.UNTOUCHED);
        Check.is("the placeholder around", y.stopState(3), SnippetSession.UNTOUCHED);
    }

    private static void notPresent() {
        Check.says("Stop n in 1..9 is ALIVE if present");
        SnippetSession x = Check.expanded("${2:a}${9:b}");
        for (int n : new int[] {1, 3, 4, 5, 6, 7, 8}) {
            Check.is("stop " + n, x.stopState(n), SnippetSession.ABSENT);
        }
        Check.play(x, "next");
        Check.is("absent ones are passed over", Check.active(x), 9);
        Check.play(x, "prev");
        Check.is("backwards, too", Check.active(x), 2);
    }

    private static void mirrorsDoNotCount() {
        Check.says("enclosing its primary");
        SnippetSession x = Check.expanded("${1:a${2:b}}$2$1");
        Check.play(x, "type q");
        Check.is("a mirror outside does not keep it alive", x.stopState(2), SnippetSession.DEAD);
        SnippetSession y = Check.expanded("$2${1:a}$2");
        Check.play(y, "type q");
        Check.is("alive by its primary", y.stopState(2), SnippetSession.UNTOUCHED);
    }

    private static void undoRevives() {
        Check.says("whose typed flag is set");
        SnippetSession x = Check.expanded("${1:a${2:b}}");
        Check.play(x, "type q", "undo");
        Check.is("the flag is clear again", x.stopState(2), SnippetSession.UNTOUCHED);
        Check.play(x, "next", "type r", "prev", "back", "undo");
        Check.is("with its own flag as it was", x.stopState(2), SnippetSession.TYPED);
    }

    private static void deadStopsKeepTheirTexts() {
        Check.says("at the position of every mirror of every stop n (alive or dead) the buffer holds the transform of"
                + " text(primary of n)");
        SnippetSession x = Check.expanded("${1:a${2:b${3:c}}}|${2/u}|${3/u}");
        Check.play(x, "next", "next", "type q", "prev", "prev", "type z");
        Check.is("2 is dead", x.stopState(2), SnippetSession.DEAD);
        Check.is("3 is dead", x.stopState(3), SnippetSession.DEAD);
        Check.same("default and typed text", Check.text(x), "z|BQ|Q");
        Check.play(x, "back");
        Check.same("after another edit", Check.text(x), "|BQ|Q");
    }
}
