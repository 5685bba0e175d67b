/** A text buffer with a caret, undo and snippet expansion; DOC.md tells what it promises. */
public final class SnippetSession {
    public static final int OK = 0;
    public static final int STATE = -1;
    public static final int BAD_CHAR = -2;
    public static final int FULL = -3;
    public static final int SYNTAX = -4;
    public static final int EMPTY = -5;
    public static final int RANGE = -6;
    public static final int NONE = -7;

    public static final int ABSENT = 0;
    public static final int UNTOUCHED = 1;
    public static final int TYPED = 2;
    public static final int DEAD = 3;
    public static final int FINAL = 4;

    public static final int INFO_LENGTH = 0;
    public static final int INFO_CARET = 1;
    public static final int INFO_SEL_START = 2;
    public static final int INFO_ACTIVE = 3;
    public static final int INFO_SELECTED = 4;
    public static final int INFO_UNDO_DEPTH = 5;
    public static final int INFO_BODY_LENGTH = 6;
    public static final int INFO_MERGE = 7;
    public static final int INFO_CAPACITY = 8;
    public static final int INFO_HISTORY_CAP = 9;

    public static final int BODY_MAX = 64;
    public static final int STOP_MAX = 8;
    public static final int DEPTH_MAX = 4;

    private static final int CODE_MIN = 32;
    private static final int CODE_MAX = 126;
    private static final int TEXT_MIN = 8;
    private static final int TEXT_MAX = 64;
    private static final int HISTORY_MIN = 1;
    private static final int HISTORY_MAX = 16;

    private static final int LAST_STOP = 9;
    private static final int STOPS = 10;
    private static final int TYPED_SIZE = STOPS * STOP_MAX;
    private static final int NO_STOP = -1;
    private static final int UNTYPED = -1;
    private static final int NOWHERE = -1;

    // No item takes less than one code of the body; one final stop may be added.
    private static final int ITEM_MAX = BODY_MAX + 1;

    // Kinds of items. A primary is a pair of OPEN and CLOSE with its default items between.
    private static final int LITERAL = 0;
    private static final int OPEN = 1;
    private static final int CLOSE = 2;
    private static final int END_MARK = 3;
    private static final int MIRROR_SAME = 4;
    private static final int MIRROR_UPPER = 5;
    private static final int MIRROR_LOWER = 6;
    private static final int MIRROR_CAPITAL = 7;
    private static final int NO_KIND = -1;

    // Where the parts of one snapshot lie within its SNAP_SIZE places of the history.
    private static final int SNAP_LENGTH = 0;
    private static final int SNAP_CARET = 1;
    private static final int SNAP_SEL_START = 2;
    private static final int SNAP_ACTIVE = 3;
    private static final int SNAP_SELECTED = 4;
    private static final int SNAP_TEXT = 5;
    private static final int SNAP_TYPED_LENGTH = SNAP_TEXT + TEXT_MAX;
    private static final int SNAP_TYPED_TEXT = SNAP_TYPED_LENGTH + STOPS;
    private static final int SNAP_SIZE = SNAP_TYPED_TEXT + TYPED_SIZE;
    private static final int HISTORY_SIZE = HISTORY_MAX * SNAP_SIZE;

    private final int capacity;
    private final int historyCap;

    private final int[] text = new int[TEXT_MAX];
    private int length;
    private int caret;
    private int selStart;

    private final int[] body = new int[BODY_MAX];
    private int bodyLength;

    private final int[] history = new int[HISTORY_SIZE];
    private int undoDepth;
    private boolean merge;

    // The structure. openAt and closeAt tell the items of a stop's primary; for stop 0, both
    // tell the final stop.
    private final int[] itemKind = new int[ITEM_MAX];
    private final int[] itemValue = new int[ITEM_MAX];
    private final int[] openAt = new int[STOPS];
    private final int[] closeAt = new int[STOPS];
    private int itemCount;

    // B and p of the last expansion. An undo can bring its session back, so they outlive it.
    private final int[] base = new int[TEXT_MAX];
    private int baseLength;
    private int basePos;

    // The session. A stop's typed length is UNTYPED while its typed flag is clear.
    private final int[] typedLength = new int[STOPS];
    private final int[] typedText = new int[TYPED_SIZE];
    private int activeStop;
    private boolean selected;

    // The body being parsed. It is apart from the structure, which a refused expansion keeps.
    private final int[] draftKind = new int[ITEM_MAX];
    private final int[] draftValue = new int[ITEM_MAX];
    private final int[] draftOpenAt = new int[STOPS];
    private final int[] draftCloseAt = new int[STOPS];
    private final int[] enclosing = new int[DEPTH_MAX];
    private int draftCount;
    private int depth;
    private int readAt;

    private final int[] trialLength = new int[STOPS];

    public SnippetSession(int capacity, int historyCap) {
        this.capacity = clamp(capacity, TEXT_MIN, TEXT_MAX);
        this.historyCap = clamp(historyCap, HISTORY_MIN, HISTORY_MAX);
        activeStop = NO_STOP;
        clearTyped();
    }

    public int feed(int c) {
        if (!isCode(c)) {
            return BAD_CHAR;
        }
        if (bodyLength >= BODY_MAX) {
            return FULL;
        }
        body[bodyLength] = c;
        bodyLength++;
        return OK;
    }

    public void clearSnippet() {
        bodyLength = 0;
    }

    public int expand() {
        if (inSession()) {
            return STATE;
        }
        if (!parseBody()) {
            return SYNTAX;
        }
        int added = untypedDraftLength();
        if (length + added > capacity) {
            return FULL;
        }
        undoDepth = 0;
        startGroup();
        adoptDraft();
        keepBase();
        clearTyped();
        rewriteText();
        goToStopAfter(0);
        merge = false;
        return OK;
    }

    public int typeChar(int c) {
        if (!isCode(c)) {
            return BAD_CHAR;
        }
        return inSession() ? typeIntoStop(c) : typeAtCaret(c);
    }

    public int backspace() {
        return inSession() ? backspaceInStop() : backspaceAtCaret();
    }

    public int next() {
        if (!inSession()) {
            return STATE;
        }
        goToStopAfter(activeStop);
        merge = false;
        return OK;
    }

    public int prev() {
        if (!inSession()) {
            return STATE;
        }
        int stop = aliveBefore(activeStop);
        if (stop == NO_STOP) {
            return NONE;
        }
        select(stop);
        merge = false;
        return OK;
    }

    public int escape() {
        if (!inSession()) {
            return STATE;
        }
        endSessionAt(caret);
        merge = false;
        return OK;
    }

    public int setCaret(int pos) {
        if (inSession()) {
            return STATE;
        }
        if (pos < 0 || pos > length) {
            return RANGE;
        }
        putCaret(pos);
        merge = false;
        return OK;
    }

    public int undo() {
        if (undoDepth == 0) {
            return EMPTY;
        }
        undoDepth--;
        restoreSnapshot(undoDepth * SNAP_SIZE);
        merge = false;
        return OK;
    }

    public int charAt(int i) {
        return i < 0 || i >= length ? -1 : text[i];
    }

    public int bodyCharAt(int i) {
        return i < 0 || i >= bodyLength ? -1 : body[i];
    }

    public int info(int key) {
        switch (key) {
            case INFO_LENGTH:
                return length;
            case INFO_CARET:
                return caret;
            case INFO_SEL_START:
                return selStart;
            case INFO_ACTIVE:
                return activeStop;
            case INFO_SELECTED:
                return inSession() && selected ? 1 : 0;
            case INFO_UNDO_DEPTH:
                return undoDepth;
            case INFO_BODY_LENGTH:
                return bodyLength;
            case INFO_MERGE:
                return merge ? 1 : 0;
            case INFO_CAPACITY:
                return capacity;
            case INFO_HISTORY_CAP:
                return historyCap;
            default:
                return -1;
        }
    }

    public int stopState(int n) {
        if (!inSession() || n < 0 || n > LAST_STOP) {
            return ABSENT;
        }
        if (n == 0) {
            return FINAL;
        }
        if (openAt[n] == NOWHERE) {
            return ABSENT;
        }
        if (!isAlive(n)) {
            return DEAD;
        }
        return typedLength[n] == UNTYPED ? UNTOUCHED : TYPED;
    }

    public int stopPos(int n, int which) {
        int state = stopState(n);
        if (state == ABSENT || state == DEAD || which < 0 || which > 1) {
            return -1;
        }
        return positionOf(which == 0 ? openAt[n] : closeAt[n]);
    }

    private static int clamp(int value, int least, int most) {
        if (value < least) {
            return least;
        }
        return value > most ? most : value;
    }

    private static boolean isCode(int c) {
        return c >= CODE_MIN && c <= CODE_MAX;
    }

    private static boolean isDigit(int c) {
        return c >= '0' && c <= '9';
    }

    private static boolean isMirror(int kind) {
        return kind >= MIRROR_SAME;
    }

    private static int upper(int c) {
        return c >= 'a' && c <= 'z' ? c - 'a' + 'A' : c;
    }

    private static int lower(int c) {
        return c >= 'A' && c <= 'Z' ? c - 'A' + 'a' : c;
    }

    /** Copies upwards, so within one array it may only move codes down. */
    private static void copy(int[] from, int fromAt, int[] to, int toAt, int count) {
        for (int i = 0; i < count; i++) {
            to[toAt + i] = from[fromAt + i];
        }
    }

    private boolean inSession() {
        return activeStop != NO_STOP;
    }

    // Plain editing

    private int typeAtCaret(int c) {
        if (length >= capacity) {
            return FULL;
        }
        if (!merge) {
            startGroup();
        }
        for (int i = length; i > caret; i--) {
            text[i] = text[i - 1];
        }
        text[caret] = c;
        length++;
        putCaret(caret + 1);
        merge = true;
        return OK;
    }

    private int backspaceAtCaret() {
        if (caret == 0) {
            return EMPTY;
        }
        startGroup();
        copy(text, caret, text, caret - 1, length - caret);
        length--;
        putCaret(caret - 1);
        merge = false;
        return OK;
    }

    private void putCaret(int pos) {
        caret = pos;
        selStart = pos;
    }

    // Editing in a session

    private int typeIntoStop(int c) {
        int kept = selected ? 0 : typedLength[activeStop];
        if (kept >= STOP_MAX || !fitsTyped(activeStop, kept + 1)) {
            return FULL;
        }
        if (!merge) {
            startGroup();
        }
        typedText[activeStop * STOP_MAX + kept] = c;
        typedLength[activeStop] = kept + 1;
        rewriteText();
        leaveCaretAfterStop();
        merge = true;
        return OK;
    }

    private int backspaceInStop() {
        if (!selected && typedLength[activeStop] == 0) {
            return EMPTY;
        }
        startGroup();
        typedLength[activeStop] = selected ? 0 : typedLength[activeStop] - 1;
        rewriteText();
        leaveCaretAfterStop();
        merge = false;
        return OK;
    }

    private void leaveCaretAfterStop() {
        selected = false;
        int end = positionOf(closeAt[activeStop]);
        putCaret(end);
    }

    /** Measures on a copy, since a call that turns out FULL must leave the session as it is. */
    private boolean fitsTyped(int stop, int newLength) {
        copy(typedLength, 0, trialLength, 0, STOPS);
        trialLength[stop] = newLength;
        return baseLength + lengthBefore(itemCount, trialLength) <= capacity;
    }

    private void clearTyped() {
        for (int n = 0; n < STOPS; n++) {
            typedLength[n] = UNTYPED;
        }
    }

    // Moving between stops

    private void goToStopAfter(int from) {
        int stop = aliveAfter(from);
        if (stop != NO_STOP) {
            select(stop);
        } else {
            int end = positionOf(openAt[0]);
            endSessionAt(end);
        }
    }

    private void select(int stop) {
        activeStop = stop;
        selected = true;
        selStart = positionOf(openAt[stop]);
        caret = positionOf(closeAt[stop]);
    }

    private void endSessionAt(int pos) {
        activeStop = NO_STOP;
        putCaret(pos);
    }

    private int aliveAfter(int from) {
        for (int n = from + 1; n <= LAST_STOP; n++) {
            if (isAlive(n)) {
                return n;
            }
        }
        return NO_STOP;
    }

    private int aliveBefore(int from) {
        for (int n = from - 1; n >= 1; n--) {
            if (isAlive(n)) {
                return n;
            }
        }
        return NO_STOP;
    }

    private boolean isAlive(int stop) {
        int at = openAt[stop];
        for (int n = 1; n <= LAST_STOP; n++) {
            if (typedLength[n] != UNTYPED && openAt[n] < at && at < closeAt[n]) {
                return false;
            }
        }
        return at != NOWHERE;
    }

    // Rendering

    private int positionOf(int item) {
        return basePos + lengthBefore(item, typedLength);
    }

    /** Counts the mirrors apart: all are at depth 0, so none of them is ever hidden. */
    private int lengthBefore(int item, int[] lengths) {
        int total = spanLength(0, item, lengths);
        for (int i = 0; i < item; i++) {
            if (isMirror(itemKind[i])) {
                int stop = itemValue[i];
                total += spanLength(openAt[stop], closeAt[stop], lengths);
            }
        }
        return total;
    }

    /** The length of the items from first up to last, where mirrors count as nothing. */
    private int spanLength(int first, int last, int[] lengths) {
        int total = 0;
        int hiddenUpTo = first;
        for (int i = first; i < last; i++) {
            if (i < hiddenUpTo) {
                continue;
            }
            int value = itemValue[i];
            if (itemKind[i] == LITERAL) {
                total++;
            } else if (itemKind[i] == OPEN && lengths[value] != UNTYPED) {
                total += lengths[value];
                hiddenUpTo = closeAt[value];
            }
        }
        return total;
    }

    private void rewriteText() {
        length = 0;
        writeBase(0, basePos);
        int from = 0;
        for (int i = 0; i < itemCount; i++) {
            if (isMirror(itemKind[i])) {
                writeSpan(from, i);
                writeMirror(itemValue[i], itemKind[i]);
                from = i + 1;
            }
        }
        writeSpan(from, itemCount);
        writeBase(basePos, baseLength);
    }

    private void writeBase(int first, int last) {
        for (int i = first; i < last; i++) {
            put(base[i]);
        }
    }

    private void writeMirror(int stop, int kind) {
        int from = length;
        writeSpan(openAt[stop], closeAt[stop]);
        int end = kind == MIRROR_CAPITAL ? from + 1 : length;
        for (int i = from; i < end && i < length; i++) {
            if (kind == MIRROR_LOWER) {
                text[i] = lower(text[i]);
            } else if (kind != MIRROR_SAME) {
                text[i] = upper(text[i]);
            }
        }
    }

    /** Writes the items from first up to last, among which there is no mirror. */
    private void writeSpan(int first, int last) {
        int hiddenUpTo = first;
        for (int i = first; i < last; i++) {
            if (i < hiddenUpTo) {
                continue;
            }
            int value = itemValue[i];
            if (itemKind[i] == LITERAL) {
                put(value);
            } else if (itemKind[i] == OPEN && typedLength[value] != UNTYPED) {
                for (int k = 0; k < typedLength[value]; k++) {
                    put(typedText[value * STOP_MAX + k]);
                }
                hiddenUpTo = closeAt[value];
            }
        }
    }

    private void put(int c) {
        if (length < TEXT_MAX) {
            text[length] = c;
            length++;
        }
    }

    // Parsing

    private boolean parseBody() {
        startDraft();
        boolean good = true;
        for (int step = 0; step < BODY_MAX && good && readAt < bodyLength; step++) {
            int c = body[readAt];
            if (c == '\\') {
                good = readEscaped();
            } else if (c == '$') {
                good = readStop();
            } else if (c == '}') {
                good = readClose();
            } else {
                addItem(LITERAL, c, 1);
            }
        }
        if (!good || depth > 0) {
            return false;
        }
        if (draftOpenAt[0] == NOWHERE) {
            addFinal(0);
        }
        return true;
    }

    private void startDraft() {
        readAt = 0;
        draftCount = 0;
        depth = 0;
        for (int n = 0; n < STOPS; n++) {
            draftOpenAt[n] = NOWHERE;
            draftCloseAt[n] = NOWHERE;
        }
    }

    private boolean readEscaped() {
        int c = bodyCharAt(readAt + 1);
        if (c != '$' && c != '\\' && c != '}') {
            return false;
        }
        addItem(LITERAL, c, 2);
        return true;
    }

    private boolean readStop() {
        int c = bodyCharAt(readAt + 1);
        if (isDigit(c)) {
            return addReference(c - '0', 2);
        }
        int digit = bodyCharAt(readAt + 2);
        if (c != '{' || !isDigit(digit)) {
            return false;
        }
        int stop = digit - '0';
        switch (bodyCharAt(readAt + 3)) {
            case '}':
                return addReference(stop, 4);
            case ':':
                return openPlaceholder(stop);
            case '/':
                return readTransform(stop);
            default:
                return false;
        }
    }

    private boolean readTransform(int stop) {
        int letter = bodyCharAt(readAt + 4);
        int kind = transformKind(letter);
        if (kind == NO_KIND || bodyCharAt(readAt + 5) != '}') {
            return false;
        }
        return addMirror(stop, kind, 6);
    }

    private static int transformKind(int letter) {
        switch (letter) {
            case 'u':
                return MIRROR_UPPER;
            case 'l':
                return MIRROR_LOWER;
            case 'c':
                return MIRROR_CAPITAL;
            default:
                return NO_KIND;
        }
    }

    private boolean openPlaceholder(int stop) {
        if (stop == 0 || draftOpenAt[stop] != NOWHERE || depth >= DEPTH_MAX) {
            return false;
        }
        enclosing[depth] = stop;
        depth++;
        draftOpenAt[stop] = draftCount;
        addItem(OPEN, stop, 4);
        return true;
    }

    private boolean readClose() {
        if (depth == 0) {
            return false;
        }
        depth--;
        int stop = enclosing[depth];
        draftCloseAt[stop] = draftCount;
        addItem(CLOSE, stop, 1);
        return true;
    }

    private boolean addReference(int stop, int width) {
        if (stop == 0) {
            return addFinal(width);
        }
        if (draftOpenAt[stop] != NOWHERE) {
            return addMirror(stop, MIRROR_SAME, width);
        }
        draftOpenAt[stop] = draftCount;
        addItem(OPEN, stop, width);
        draftCloseAt[stop] = draftCount;
        addItem(CLOSE, stop, 0);
        return true;
    }

    private boolean addFinal(int width) {
        if (depth > 0 || draftOpenAt[0] != NOWHERE) {
            return false;
        }
        draftOpenAt[0] = draftCount;
        draftCloseAt[0] = draftCount;
        addItem(END_MARK, 0, width);
        return true;
    }

    private boolean addMirror(int stop, int kind, int width) {
        if (depth > 0 || stop == 0 || draftOpenAt[stop] == NOWHERE) {
            return false;
        }
        addItem(kind, stop, width);
        return true;
    }

    private void addItem(int kind, int value, int width) {
        if (draftCount < ITEM_MAX) {
            draftKind[draftCount] = kind;
            draftValue[draftCount] = value;
            draftCount++;
        }
        readAt += width;
    }

    /** With nothing typed, each literal shows once, and once more in each mirror around it. */
    private int untypedDraftLength() {
        int total = draftLiterals(0, draftCount);
        for (int i = 0; i < draftCount; i++) {
            if (isMirror(draftKind[i])) {
                int stop = draftValue[i];
                total += draftLiterals(draftOpenAt[stop], draftCloseAt[stop]);
            }
        }
        return total;
    }

    private int draftLiterals(int first, int last) {
        int count = 0;
        for (int i = first; i < last; i++) {
            if (draftKind[i] == LITERAL) {
                count++;
            }
        }
        return count;
    }

    private void adoptDraft() {
        itemCount = draftCount;
        copy(draftKind, 0, itemKind, 0, draftCount);
        copy(draftValue, 0, itemValue, 0, draftCount);
        copy(draftOpenAt, 0, openAt, 0, STOPS);
        copy(draftCloseAt, 0, closeAt, 0, STOPS);
    }

    private void keepBase() {
        basePos = caret;
        baseLength = length;
        copy(text, 0, base, 0, length);
    }

    // History

    private void startGroup() {
        if (undoDepth >= historyCap) {
            dropOldest();
        }
        int at = undoDepth * SNAP_SIZE;
        history[at + SNAP_LENGTH] = length;
        history[at + SNAP_CARET] = caret;
        history[at + SNAP_SEL_START] = selStart;
        history[at + SNAP_ACTIVE] = activeStop;
        history[at + SNAP_SELECTED] = selected ? 1 : 0;
        copy(text, 0, history, at + SNAP_TEXT, TEXT_MAX);
        copy(typedLength, 0, history, at + SNAP_TYPED_LENGTH, STOPS);
        copy(typedText, 0, history, at + SNAP_TYPED_TEXT, TYPED_SIZE);
        undoDepth++;
    }

    private void dropOldest() {
        undoDepth--;
        copy(history, SNAP_SIZE, history, 0, undoDepth * SNAP_SIZE);
    }

    private void restoreSnapshot(int at) {
        length = history[at + SNAP_LENGTH];
        caret = history[at + SNAP_CARET];
        selStart = history[at + SNAP_SEL_START];
        activeStop = history[at + SNAP_ACTIVE];
        selected = history[at + SNAP_SELECTED] == 1;
        copy(history, at + SNAP_TEXT, text, 0, TEXT_MAX);
        copy(history, at + SNAP_TYPED_LENGTH, typedLength, 0, STOPS);
        copy(history, at + SNAP_TYPED_TEXT, typedText, 0, TYPED_SIZE);
    }
}
