/**
 * The firmware of a keyboard without diodes. A scan goes through the parts in this order: Matrix
 * (which keys are read, seen and believed), EventQueue (the events not taken yet), then what taking
 * them does to Layers and Reports, as Keymap and Chords say.
 *
 * A set of keys is an int with bit k for key k; an event is an int, 2 * key + 1 for a press and
 * 2 * key for a release.
 */
public final class GhostKeys {
    public static final int NOTHING = 0;
    public static final int CODE = 1;
    public static final int HELD = 2;
    public static final int LOCK = 3;
    public static final int ARMED = 4;
    public static final int TAP = 5;
    public static final int MACRO = 6;
    public static final int NONE = -1;

    private static final int ROWS = 4;
    private static final int COLUMNS = 6;
    private static final int KEYS = ROWS * COLUMNS;
    private static final int LAYERS = 4;
    private static final int MACROS = 4;
    private static final int MACRO_CODES = 4;
    private static final int CHORDS = 4;
    private static final int MOST_CHORD_KEYS = 4;
    private static final int FIRST_CODE = 4;
    private static final int FIRST_MODIFIER = 100;
    private static final int LAST_CODE = 107;
    private static final int MOST_SCANS = 100;
    private static final int MOST_PATTERN = 255;
    /** With more events than these in the queue nothing in it waits any longer. */
    private static final int PATIENCE = 8;
    private static final int CHORD_SPAN = 9;
    private static final int TAP_SPAN = 20;

    private final Matrix matrix;
    private final History past;
    private final EventQueue queue;
    private final Keymap keymap;
    private final Chords chords;
    private final Layers layers;
    private final Holds holds;
    private final Reports reports;
    /** The number of the scan that runs; between scans that of the next one. */
    private int now;

    public GhostKeys() {
        matrix = new Matrix();
        past = new History();
        queue = new EventQueue();
        keymap = new Keymap();
        chords = new Chords();
        layers = new Layers();
        holds = new Holds();
        reports = new Reports();
        now = 0;
    }

    public void wire(int key, boolean on) throws IndexOutOfBoundsException {
        requireKey(key);
        matrix.setWired(key, on);
    }

    public void bounce(int key, int pattern) throws IndexOutOfBoundsException, IllegalArgumentException {
        requireKey(key);
        if (pattern < 0 || pattern > MOST_PATTERN) {
            throw new IllegalArgumentException("the pattern is not 0 .. 255");
        }
        matrix.setBounce(key, pattern);
    }

    public int scan() {
        return runScan();
    }

    public int scans(int many) throws IllegalArgumentException {
        if (many < 1 || many > MOST_SCANS) {
            throw new IllegalArgumentException("many is not 1 .. 100");
        }
        int events = 0;
        for (int i = 0; i < many; i++) {
            events += runScan();
        }
        return events;
    }

    public boolean poll() {
        return reports.takeOldest();
    }

    public int report(int what) {
        return reports.partOfTaken(what);
    }

    public int waiting() {
        return reports.stored();
    }

    public boolean late() {
        return reports.isLate();
    }

    public void map(int layer, int key, int kind, int a, int b)
            throws IndexOutOfBoundsException, IllegalArgumentException {
        requireLayer(layer);
        requireKey(key);
        if (!isAction(kind, a, b)) {
            throw new IllegalArgumentException("no such action");
        }
        keymap.setAction(layer, key, kind, a, b);
    }

    public void macro(int m, int i, int code) throws IndexOutOfBoundsException, IllegalArgumentException {
        if (m < 0 || m >= MACROS || i < 0 || i >= MACRO_CODES) {
            throw new IndexOutOfBoundsException("no such place in a macro");
        }
        if (code != 0 && !isCode(code)) {
            throw new IllegalArgumentException("neither 0 nor a code");
        }
        keymap.setMacroCode(m, i, code);
    }

    public void chord(int c, int keys, int code)
            throws IndexOutOfBoundsException, IllegalArgumentException, IllegalStateException {
        if (c < 0 || c >= CHORDS) {
            throw new IndexOutOfBoundsException("no such chord");
        }
        if (keys != 0 && !(isChord(keys) && isCode(code))) {
            throw new IllegalArgumentException("not the keys or not the code of a chord");
        }
        if (keys != 0 && chords.hasElsewhere(c, keys)) {
            throw new IllegalStateException("another chord has just these keys");
        }
        chords.setChord(c, keys, code);
    }

    public boolean on(int layer) throws IndexOutOfBoundsException {
        requireLayer(layer);
        return layers.isOn(layer);
    }

    public int top(int key) throws IndexOutOfBoundsException {
        requireKey(key);
        return keymap.topLayer(key, layers);
    }

    public int key(int key, int what) throws IndexOutOfBoundsException {
        requireKey(key);
        if (what < 0 || what > 3) {
            throw new IndexOutOfBoundsException("what is not 0 .. 3");
        }
        return matrix.keysThatAre(what) >> key & 1;
    }

    public int queued() {
        return queue.length();
    }

    public int history(int i) {
        return past.latest(i);
    }

    private static void requireKey(int key) {
        if (key < 0 || key >= KEYS) {
            throw new IndexOutOfBoundsException("no such key");
        }
    }

    private static void requireLayer(int layer) {
        if (layer < 0 || layer >= LAYERS) {
            throw new IndexOutOfBoundsException("no such layer");
        }
    }

    private static boolean isCode(int code) {
        return code >= FIRST_CODE && code <= LAST_CODE;
    }

    private static boolean isUpperLayer(int layer) {
        return layer >= 1 && layer < LAYERS;
    }

    private static boolean isChord(int keys) {
        int many = Integer.bitCount(keys);
        return keys >>> KEYS == 0 && many >= 2 && many <= MOST_CHORD_KEYS;
    }

    private static boolean isAction(int kind, int a, int b) {
        switch (kind) {
            case NOTHING:
                return true;
            case CODE:
                return isCode(a);
            case HELD:
            case LOCK:
            case ARMED:
                return isUpperLayer(a);
            case TAP:
                return isCode(a) && isUpperLayer(b);
            case MACRO:
                return a >= 0 && a < MACROS;
            default:
                return false;
        }
    }

    private int runScan() {
        matrix.look();
        int events = bringEvents();
        boolean decided = true;
        // Each round takes at least one event, so the queue's room bounds the rounds.
        for (int i = 0; decided && i < EventQueue.ROOM; i++) {
            decided = takeFirst();
        }
        now++;
        return events;
    }

    private int bringEvents() {
        int events = 0;
        for (int key = 0; key < KEYS; key++) {
            int event = matrix.believe(key);
            if (event != NONE) {
                past.add(event);
                queue.add(event, now);
                events++;
            }
        }
        return events;
    }

    /** Takes the first event, a whole chord at once; false if there is none or it is not decided yet. */
    private boolean takeFirst() {
        if (queue.length() == 0) {
            return false;
        }
        if (!queue.isPress(0)) {
            takeRelease();
            return true;
        }
        int row = queue.rowLength();
        if (waitsForChord(row)) {
            return false;
        }
        int chord = chords.longestAtStart(queue, row);
        if (chord != NONE) {
            takeChord(chord);
            return true;
        }
        return takeByAction();
    }

    private void takeRelease() {
        int key = queue.keyAt(0);
        queue.removeFirst(1);
        layers.letGo(key);
        int code = holds.end(key);
        if (code != 0) {
            reports.letGo(code);
        }
    }

    private boolean waitsForChord(int row) {
        return row == queue.length()
                && row <= PATIENCE
                && now < queue.scanAt(0) + CHORD_SPAN
                && chords.canGrowFrom(queue.firstKeys(row));
    }

    private void takeChord(int chord) {
        int keys = chords.keysOf(chord);
        int code = chords.codeOf(chord);
        queue.removeFirst(Integer.bitCount(keys));
        holds.begin(keys, code);
        reports.goDown(code);
        layers.disarm();
    }

    private boolean takeByAction() {
        int key = queue.keyAt(0);
        int layer = keymap.topLayer(key, layers);
        int kind = keymap.kind(layer, key);
        int tap = kind == TAP ? tellTap() : EventQueue.UNTOLD;
        if (kind == TAP && tap == EventQueue.UNTOLD) {
            return false;
        }
        queue.removeFirst(1);
        int a = keymap.a(layer, key);
        switch (kind) {
            case CODE:
                holds.begin(1 << key, a);
                reports.goDown(a);
                break;
            case HELD:
                layers.hold(a, key);
                break;
            case LOCK:
                layers.turnLock(a);
                break;
            case ARMED:
                layers.arm(a);
                break;
            case TAP:
                actTap(key, layer, tap);
                break;
            case MACRO:
                playMacro(a);
                break;
            default:
                break;
        }
        if (kind != ARMED) {
            layers.disarm();
        }
        return true;
    }

    private int tellTap() {
        int told = queue.tellTap();
        boolean tooLong = now >= queue.scanAt(0) + TAP_SPAN || queue.length() > PATIENCE;
        return told == EventQueue.UNTOLD && tooLong ? EventQueue.TOLD_HELD : told;
    }

    private void actTap(int key, int layer, int tap) {
        if (tap == EventQueue.TOLD_HELD) {
            layers.hold(keymap.b(layer, key), key);
        } else {
            int code = keymap.a(layer, key);
            reports.goDown(code);
            reports.letGo(code);
        }
    }

    private void playMacro(int m) {
        for (int i = 0; i < MACRO_CODES; i++) {
            int code = keymap.macroCode(m, i);
            if (code != 0) {
                reports.goDown(code);
                reports.letGo(code);
            }
        }
    }

    /** The keys by their contacts: which are read, seen and believed. */
    private static final class Matrix {
        private static final int STEADY_SCANS = 5;

        private final int[] bounces = new int[KEYS];
        /** For how many scans in a row a key was read otherwise than it is seen. */
        private final int[] otherwise = new int[KEYS];
        private int wired;
        private int read;
        private int seen;
        private int believed;

        void setWired(int key, boolean closed) {
            wired = closed ? wired | 1 << key : wired & ~(1 << key);
        }

        void setBounce(int key, int pattern) {
            bounces[key] = pattern;
        }

        int keysThatAre(int what) {
            switch (what) {
                case 0:
                    return read;
                case 1:
                    return seen;
                case 2:
                    return believed;
                default:
                    return seen & ~believed;
            }
        }

        void look() {
            int closed = closedContacts();
            read = closed;
            for (int key = 0; key < KEYS; key++) {
                if ((closed >> key & 1) == 0 && isFourthCorner(key, closed)) {
                    read |= 1 << key;
                }
            }
            for (int key = 0; key < KEYS; key++) {
                watch(key);
            }
        }

        /** The event by which the key is believed, or no longer; NONE if it stays as it is. */
        int believe(int key) {
            int bit = 1 << key;
            if ((believed & ~seen & bit) != 0) {
                believed &= ~bit;
                return 2 * key;
            }
            if ((seen & ~believed & bit) != 0 && !isFourthCorner(key, seen)) {
                believed |= bit;
                return 2 * key + 1;
            }
            return NONE;
        }

        private int closedContacts() {
            int closed = wired;
            for (int key = 0; key < KEYS; key++) {
                closed ^= (bounces[key] & 1) << key;
                bounces[key] >>= 1;
            }
            return closed;
        }

        private void watch(int key) {
            int bit = 1 << key;
            otherwise[key] = ((read ^ seen) & bit) != 0 ? otherwise[key] + 1 : 0;
            if (otherwise[key] == STEADY_SCANS) {
                seen ^= bit;
                otherwise[key] = 0;
            }
        }

        /** Whether for some other row and column the three other corners are all among the keys. */
        private static boolean isFourthCorner(int key, int keys) {
            int ownRow = key / COLUMNS;
            int column = key % COLUMNS;
            int besides = rowOf(keys, ownRow) & ~(1 << column);
            for (int row = 0; row < ROWS; row++) {
                int other = rowOf(keys, row);
                if (row != ownRow && (other >> column & 1) != 0 && (other & besides) != 0) {
                    return true;
                }
            }
            return false;
        }

        private static int rowOf(int keys, int row) {
            return keys >> row * COLUMNS & (1 << COLUMNS) - 1;
        }
    }

    /** The latest events that scans brought. */
    private static final class History {
        private static final int ROOM = 32;

        private final int[] events = new int[ROOM];
        private int next;
        private int kept;

        void add(int event) {
            events[next] = event;
            next = (next + 1) % ROOM;
            kept = Math.min(kept + 1, ROOM);
        }

        int latest(int i) {
            if (i < 0 || i >= kept) {
                return NONE;
            }
            return events[(next + ROOM - 1 - i) % ROOM];
        }
    }

    /** The events that are not taken yet, with the scans that brought them. */
    private static final class EventQueue {
        static final int UNTOLD = 0;
        static final int TOLD_TAP = 1;
        static final int TOLD_HELD = 2;
        /** A scan leaves at most PATIENCE events, and the next one brings at most one for each key. */
        static final int ROOM = PATIENCE + KEYS;

        private final int[] events = new int[ROOM];
        private final int[] scanOf = new int[ROOM];
        private int length;

        int length() {
            return length;
        }

        void add(int event, int scan) {
            if (length < ROOM) {
                events[length] = event;
                scanOf[length] = scan;
                length++;
            }
        }

        void removeFirst(int many) {
            for (int i = many; i < length; i++) {
                events[i - many] = events[i];
                scanOf[i - many] = scanOf[i];
            }
            length = Math.max(length - many, 0);
        }

        boolean isPress(int i) {
            return (events[i] & 1) != 0;
        }

        int keyAt(int i) {
            return events[i] >> 1;
        }

        int scanAt(int i) {
            return scanOf[i];
        }

        /** How many events the row of the first press has. */
        int rowLength() {
            int row = 0;
            while (row < length && isPress(row) && scanOf[row] <= scanOf[0] + CHORD_SPAN) {
                row++;
            }
            return row;
        }

        int firstKeys(int many) {
            int keys = 0;
            for (int i = 0; i < many && i < length; i++) {
                keys |= 1 << keyAt(i);
            }
            return keys;
        }

        /** What the events behind the first press tell of it. */
        int tellTap() {
            int pressedBehind = 0;
            for (int i = 1; i < length; i++) {
                int bit = 1 << keyAt(i);
                if (isPress(i)) {
                    pressedBehind |= bit;
                } else if (keyAt(i) == keyAt(0)) {
                    return TOLD_TAP;
                } else if ((pressedBehind & bit) != 0) {
                    return TOLD_HELD;
                }
            }
            return UNTOLD;
        }
    }

    /** The actions of the keys by layers, and the macros. */
    private static final class Keymap {
        private final int[] kinds = new int[LAYERS * KEYS];
        private final int[] firsts = new int[LAYERS * KEYS];
        private final int[] seconds = new int[LAYERS * KEYS];
        private final int[] macroCodes = new int[MACROS * MACRO_CODES];

        void setAction(int layer, int key, int kind, int a, int b) {
            int place = layer * KEYS + key;
            kinds[place] = kind;
            firsts[place] = a;
            seconds[place] = b;
        }

        void setMacroCode(int m, int i, int code) {
            macroCodes[m * MACRO_CODES + i] = code;
        }

        int macroCode(int m, int i) {
            return macroCodes[m * MACRO_CODES + i];
        }

        /** The layer whose action the key has; NONE if it has none. */
        int topLayer(int key, Layers layers) {
            for (int layer = LAYERS - 1; layer >= 0; layer--) {
                if (kind(layer, key) != NOTHING && layers.isOn(layer)) {
                    return layer;
                }
            }
            return NONE;
        }

        int kind(int layer, int key) {
            return layer == NONE ? NOTHING : kinds[layer * KEYS + key];
        }

        int a(int layer, int key) {
            return layer == NONE ? 0 : firsts[layer * KEYS + key];
        }

        int b(int layer, int key) {
            return layer == NONE ? 0 : seconds[layer * KEYS + key];
        }
    }

    /** The chords; one without keys is none. */
    private static final class Chords {
        private final int[] keys = new int[CHORDS];
        private final int[] codes = new int[CHORDS];

        void setChord(int c, int itsKeys, int code) {
            keys[c] = itsKeys;
            codes[c] = code;
        }

        int keysOf(int c) {
            return keys[c];
        }

        int codeOf(int c) {
            return codes[c];
        }

        boolean hasElsewhere(int c, int theseKeys) {
            for (int i = 0; i < CHORDS; i++) {
                if (i != c && keys[i] == theseKeys) {
                    return true;
                }
            }
            return false;
        }

        /** Whether some chord has all of these keys, and others. */
        boolean canGrowFrom(int theseKeys) {
            for (int i = 0; i < CHORDS; i++) {
                if ((theseKeys & ~keys[i]) == 0 && keys[i] != theseKeys) {
                    return true;
                }
            }
            return false;
        }

        /** The chord with most keys that are just the first ones of the row; NONE if there is none. */
        int longestAtStart(EventQueue queue, int row) {
            int best = NONE;
            int most = 0;
            for (int i = 0; i < CHORDS; i++) {
                int many = Integer.bitCount(keys[i]);
                if (many > most && many <= row && queue.firstKeys(many) == keys[i]) {
                    best = i;
                    most = many;
                }
            }
            return best;
        }
    }

    /** Which layers are on, and why. */
    private static final class Layers {
        /** For each layer the keys that hold it. */
        private final int[] holders = new int[LAYERS];
        private int locked;
        private int armed;

        boolean isOn(int layer) {
            return layer == 0 || holders[layer] != 0 || ((locked | armed) >> layer & 1) != 0;
        }

        void hold(int layer, int key) {
            holders[layer] |= 1 << key;
        }

        void letGo(int key) {
            for (int layer = 0; layer < LAYERS; layer++) {
                holders[layer] &= ~(1 << key);
            }
        }

        void turnLock(int layer) {
            locked ^= 1 << layer;
        }

        void arm(int layer) {
            armed |= 1 << layer;
        }

        void disarm() {
            armed = 0;
        }
    }

    /**
     * The codes that presses began and releases end. The code is kept, not looked up again, as the
     * action or the chord may be another one by the time of the release.
     */
    private static final class Holds {
        private final int[] codes = new int[KEYS];
        /** The keys that began the code together. */
        private final int[] mates = new int[KEYS];

        void begin(int keys, int code) {
            for (int key = 0; key < KEYS; key++) {
                if ((keys >> key & 1) != 0) {
                    codes[key] = code;
                    mates[key] = keys;
                }
            }
        }

        /** The code that ends with this key, for its mates too; 0 if there is none. */
        int end(int key) {
            int code = codes[key];
            if (code != 0) {
                begin(mates[key], 0);
            }
            return code;
        }
    }

    /**
     * The codes that are down, and the store of reports about them. A report is one long, so that it
     * is kept and compared without objects: the modifiers in 8 bits, above them six codes in 7 bits each.
     */
    private static final class Reports {
        private static final int ROOM = 8;
        private static final int CODES = 6;
        private static final int MODIFIER_BITS = 8;
        private static final int CODE_BITS = 7;
        private static final long TOO_MANY = 1;

        /** For each code how many presses hold it. */
        private final int[] holders = new int[LAST_CODE + 1];
        private final long[] store = new long[ROOM];
        private int oldest;
        private int stored;
        private boolean late;
        private long lastPut;
        private long taken;

        int stored() {
            return stored;
        }

        boolean isLate() {
            return late;
        }

        void goDown(int code) {
            holders[code]++;
            putIfOther(packed());
        }

        void letGo(int code) {
            holders[code]--;
            putIfOther(packed());
        }

        boolean takeOldest() {
            if (stored == 0) {
                return false;
            }
            taken = store[oldest];
            oldest = (oldest + 1) % ROOM;
            stored--;
            if (late) {
                late = false;
                putIfOther(packed());
            }
            return true;
        }

        int partOfTaken(int what) {
            if (what < 0 || what > CODES) {
                return NONE;
            }
            if (what == 0) {
                return (int) (taken & (1 << MODIFIER_BITS) - 1);
            }
            int place = MODIFIER_BITS + CODE_BITS * (what - 1);
            return (int) (taken >> place & (1 << CODE_BITS) - 1);
        }

        private void putIfOther(long report) {
            if (report == lastPut) {
                return;
            }
            if (stored == ROOM) {
                late = true;
                return;
            }
            store[(oldest + stored) % ROOM] = report;
            stored++;
            lastPut = report;
        }

        /** The report of what is down now. */
        private long packed() {
            long modifiers = 0;
            for (int i = 0; i < MODIFIER_BITS; i++) {
                if (holders[FIRST_MODIFIER + i] > 0) {
                    modifiers |= 1L << i;
                }
            }
            long codes = 0;
            long tooMany = 0;
            int down = 0;
            for (int code = FIRST_CODE; code < FIRST_MODIFIER && down <= CODES; code++) {
                if (holders[code] > 0) {
                    int place = MODIFIER_BITS + CODE_BITS * down;
                    codes |= (long) code << place;
                    tooMany |= down < CODES ? TOO_MANY << place : 0;
                    down++;
                }
            }
            return modifiers | (down > CODES ? tooMany : codes);
        }
    }
}
