import java.util.ArrayDeque;
import java.util.ArrayList;
import java.util.Deque;
import java.util.HashMap;
import java.util.List;
import java.util.Map;

/** The document's words put plainly over strings and trees, to compare SnippetSession with. */
final class Model {
    /** An item; stop is -1 for a literal, and parent is the placeholder around it, or null. */
    private static final class Item {
        char literal;
        int stop = -1;
        char transform = '=';
        boolean mirror;
        Item parent;
        final List<Item> defaults = new ArrayList<>();
    }

    private record Snapshot(String buffer, int caret, int selStart, boolean inSession, int active,
            boolean selected, Map<Integer, String> typed) {
    }

    private final int capacity;
    private final int historyCap;
    private String buffer = "";
    private int caret;
    private int selStart;
    private String body = "";
    private final Deque<Snapshot> history = new ArrayDeque<>();
    private boolean merge;

    private List<Item> structure = new ArrayList<>();
    private Map<Integer, Item> primaries = new HashMap<>();
    private String base = "";
    private int basePos;

    private boolean inSession;
    private int active;
    private boolean selected;
    private Map<Integer, String> typed = new HashMap<>();

    private int at;
    private List<Item> parsed;
    private Map<Integer, Item> seen;
    private boolean malformed;

    Model(int capacity, int historyCap) {
        this.capacity = Math.max(8, Math.min(64, capacity));
        this.historyCap = Math.max(1, Math.min(16, historyCap));
    }

    int feed(int c) {
        if (c < 32 || c > 126) {
            return -2;
        }
        if (body.length() == 64) {
            return -3;
        }
        body += (char) c;
        return 0;
    }

    void clearSnippet() {
        body = "";
    }

    int expand() {
        if (inSession) {
            return -1;
        }
        parse();
        if (malformed) {
            return -4;
        }
        if (buffer.length() + render(parsed, seen, new HashMap<>()).length() > capacity) {
            return -3;
        }
        history.clear();
        startGroup();
        structure = parsed;
        primaries = seen;
        base = buffer;
        basePos = caret;
        typed = new HashMap<>();
        showBuffer();
        goOn(0);
        merge = false;
        return 0;
    }

    int typeChar(int c) {
        if (c < 32 || c > 126) {
            return -2;
        }
        if (inSession) {
            String old = selected ? "" : typed.get(active);
            Map<Integer, String> wanted = new HashMap<>(typed);
            wanted.put(active, old + (char) c);
            int length = base.length() + render(structure, primaries, wanted).length();
            if (old.length() == 8 || length > capacity) {
                return -3;
            }
            if (!merge) {
                startGroup();
            }
            edit(wanted);
        } else {
            if (buffer.length() == capacity) {
                return -3;
            }
            if (!merge) {
                startGroup();
            }
            buffer = buffer.substring(0, caret) + (char) c + buffer.substring(caret);
            caret++;
            selStart = caret;
        }
        merge = true;
        return 0;
    }

    int backspace() {
        if (inSession) {
            String old = selected ? "x" : typed.get(active);
            if (old.isEmpty()) {
                return -5;
            }
            startGroup();
            Map<Integer, String> wanted = new HashMap<>(typed);
            wanted.put(active, old.substring(0, old.length() - 1));
            edit(wanted);
        } else {
            if (caret == 0) {
                return -5;
            }
            startGroup();
            buffer = buffer.substring(0, caret - 1) + buffer.substring(caret);
            caret--;
            selStart = caret;
        }
        merge = false;
        return 0;
    }

    int next() {
        if (!inSession) {
            return -1;
        }
        goOn(active);
        merge = false;
        return 0;
    }

    int prev() {
        if (!inSession) {
            return -1;
        }
        int found = 0;
        for (int n = 1; n < active; n++) {
            found = alive(n) ? n : found;
        }
        if (found == 0) {
            return -7;
        }
        select(found);
        merge = false;
        return 0;
    }

    int escape() {
        if (!inSession) {
            return -1;
        }
        inSession = false;
        selStart = caret;
        merge = false;
        return 0;
    }

    int setCaret(int pos) {
        if (inSession) {
            return -1;
        }
        if (pos < 0 || pos > buffer.length()) {
            return -6;
        }
        caret = pos;
        selStart = pos;
        merge = false;
        return 0;
    }

    int undo() {
        if (history.isEmpty()) {
            return -5;
        }
        Snapshot s = history.pop();
        buffer = s.buffer();
        caret = s.caret();
        selStart = s.selStart();
        inSession = s.inSession();
        active = s.active();
        selected = s.selected();
        typed = new HashMap<>(s.typed());
        merge = false;
        return 0;
    }

    /** The same text as Check.whole. */
    String whole() {
        StringBuilder all = new StringBuilder("\"" + buffer + "\" body \"" + body + "\" info");
        int[] info = {buffer.length(), caret, selStart, inSession ? active : -1, inSession && selected ? 1 : 0,
            history.size(), body.length(), merge ? 1 : 0, capacity, historyCap};
        for (int value : info) {
            all.append(' ').append(value);
        }
        all.append(" stops");
        for (int n = 0; n <= 9; n++) {
            int state = stopState(n);
            all.append(' ').append(state).append('@');
            if (state == 0 || state == 3) {
                all.append("-1..-1");
            } else {
                all.append(start(n)).append("..").append(end(n));
            }
        }
        return all.toString();
    }

    private int stopState(int n) {
        if (!inSession) {
            return 0;
        }
        if (n == 0) {
            return 4;
        }
        if (!primaries.containsKey(n)) {
            return 0;
        }
        if (!alive(n)) {
            return 3;
        }
        return typed.containsKey(n) ? 2 : 1;
    }

    private boolean alive(int n) {
        if (!primaries.containsKey(n)) {
            return false;
        }
        for (Item around = primaries.get(n).parent; around != null; around = around.parent) {
            if (typed.containsKey(around.stop)) {
                return false;
            }
        }
        return true;
    }

    private void edit(Map<Integer, String> wanted) {
        typed = wanted;
        selected = false;
        showBuffer();
        caret = end(active);
        selStart = caret;
    }

    private void goOn(int from) {
        for (int n = from + 1; n <= 9; n++) {
            if (alive(n)) {
                select(n);
                return;
            }
        }
        inSession = false;
        caret = start(0);
        selStart = caret;
    }

    private void select(int n) {
        inSession = true;
        active = n;
        selected = true;
        selStart = start(n);
        caret = end(n);
    }

    private void startGroup() {
        if (history.size() == historyCap) {
            history.removeLast();
        }
        history.push(new Snapshot(buffer, caret, selStart, inSession, active, selected, new HashMap<>(typed)));
    }

    private void showBuffer() {
        buffer = base.substring(0, basePos) + render(structure, primaries, typed) + base.substring(basePos);
    }

    private int start(int n) {
        return basePos + before(structure, primaries.get(n));
    }

    private int end(int n) {
        return n == 0 ? start(0) : start(n) + text(primaries.get(n), primaries, typed).length();
    }

    /** How many characters stand before an item that is shown somewhere in these items. */
    private int before(List<Item> items, Item wanted) {
        int count = 0;
        for (Item item : items) {
            if (item == wanted) {
                return count;
            }
            for (Item around = wanted.parent; around != null; around = around.parent) {
                if (around == item) {
                    return count + before(item.defaults, wanted);
                }
            }
            count += text(item, primaries, typed).length();
        }
        throw new IllegalStateException("an item is not where its parent says");
    }

    private static String render(List<Item> items, Map<Integer, Item> primaries, Map<Integer, String> typed) {
        StringBuilder text = new StringBuilder();
        for (Item item : items) {
            text.append(text(item, primaries, typed));
        }
        return text.toString();
    }

    private static String text(Item item, Map<Integer, Item> primaries, Map<Integer, String> typed) {
        if (item.stop < 0) {
            return String.valueOf(item.literal);
        }
        if (item.stop == 0) {
            return "";
        }
        if (item.mirror) {
            return transform(text(primaries.get(item.stop), primaries, typed), item.transform);
        }
        return typed.containsKey(item.stop) ? typed.get(item.stop) : render(item.defaults, primaries, typed);
    }

    private static String transform(String text, char transform) {
        switch (transform) {
            case 'u':
                return text.toUpperCase(java.util.Locale.ROOT);
            case 'l':
                return text.toLowerCase(java.util.Locale.ROOT);
            case 'c':
                return text.isEmpty() ? text : transform(text.substring(0, 1), 'u') + text.substring(1);
            default:
                return text;
        }
    }

    private void parse() {
        at = 0;
        malformed = false;
        parsed = new ArrayList<>();
        seen = new HashMap<>();
        parseItems(parsed, null, 0);
        if (!malformed && !seen.containsKey(0)) {
            Item last = new Item();
            last.stop = 0;
            seen.put(0, last);
            parsed.add(last);
        }
    }

    private void parseItems(List<Item> into, Item parent, int depth) {
        while (!malformed && at < body.length()) {
            String rest = body.substring(at);
            Item item = new Item();
            item.parent = parent;
            if (rest.startsWith("}")) {
                at++;
                malformed = depth == 0;
                return;
            } else if (rest.matches("\\\\[$\\\\}].*")) {
                at += 2;
                item.literal = rest.charAt(1);
                into.add(item);
            } else if (rest.matches("\\$\\d.*")) {
                at += 2;
                addReference(into, item, rest.charAt(1) - '0', depth);
            } else if (rest.matches("\\$\\{\\d\\}.*")) {
                at += 4;
                addReference(into, item, rest.charAt(2) - '0', depth);
            } else if (rest.matches("\\$\\{\\d/[ulc]\\}.*")) {
                at += 6;
                item.transform = rest.charAt(4);
                addMirror(into, item, rest.charAt(2) - '0', depth);
            } else if (rest.matches("\\$\\{\\d:.*")) {
                at += 4;
                item.stop = rest.charAt(2) - '0';
                malformed = item.stop == 0 || seen.containsKey(item.stop) || depth == 4;
                seen.put(item.stop, item);
                into.add(item);
                parseItems(item.defaults, item, depth + 1);
            } else if (rest.startsWith("$") || rest.startsWith("\\")) {
                malformed = true;
            } else {
                at++;
                item.literal = rest.charAt(0);
                into.add(item);
            }
        }
        malformed = malformed || depth > 0;
    }

    private void addReference(List<Item> into, Item item, int stop, int depth) {
        item.stop = stop;
        if (stop == 0) {
            malformed = depth > 0 || seen.containsKey(0);
        } else if (seen.containsKey(stop)) {
            addMirror(into, item, stop, depth);
            return;
        }
        seen.put(stop, item);
        into.add(item);
    }

    private void addMirror(List<Item> into, Item item, int stop, int depth) {
        item.stop = stop;
        item.mirror = true;
        malformed = depth > 0 || stop == 0 || !seen.containsKey(stop);
        into.add(item);
    }
}
