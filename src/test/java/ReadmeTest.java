/** The example of README.md: each call shows there what it shows here. */
public final class ReadmeTest {
    public static void main(String[] args) {
        SnippetSession s = new SnippetSession(32, 8);
        Check.setBody(s, "${1:name} = new ${1/c}($2)");
        Check.is("expand", s.expand(), SnippetSession.OK);
        shows(s, "name = new Name()", "0..4 1 1");
        Check.is("typeChar i", s.typeChar('i'), SnippetSession.OK);
        shows(s, "i = new I()", "1..1 1 0");
        Check.is("typeChar d", s.typeChar('d'), SnippetSession.OK);
        shows(s, "id = new Id()", "2..2 1 0");
        Check.is("next", s.next(), SnippetSession.OK);
        shows(s, "id = new Id()", "12..12 2 1");
        Check.is("next at the last stop", s.next(), SnippetSession.OK);
        shows(s, "id = new Id()", "13..13 -1 0");
        Check.is("undo", s.undo(), SnippetSession.OK);
        shows(s, "name = new Name()", "0..4 1 1");
        Check.finish();
    }

    private static void shows(SnippetSession s, String text, String selection) {
        Check.same("buffer", Check.text(s), text);
        Check.same("selection in \"" + text + "\"", Check.selection(s), selection);
    }
}
