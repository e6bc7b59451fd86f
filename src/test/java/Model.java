import java.util.ArrayList;
import java.util.HashMap;
import java.util.HashSet;
import java.util.List;
import java.util.Map;
import java.util.Set;
import java.util.TreeSet;

/** The document once more, sentence by sentence, with the whole Java library and no care for speed. */
final class Model {
    record Action(int kind, int a, int b) {
    }

    record Event(int key, boolean press, int scan) {
    }

    record Chord(Set<Integer> keys, int code) {
    }

    record Report(int modifiers, List<Integer> codes) {
    }

    /** What a press, or the presses of a chord, began: a code (or 0) or a layer (or 0). */
    static final class Begun {
        final Set<Integer> keys;
        final int code;
        final int layer;

        Begun(Set<Integer> keys, int code, int layer) {
            this.keys = keys;
            this.code = code;
            this.layer = layer;
        }
    }

    private static final Action NO_ACTION = new Action(GhostKeys.NOTHING, 0, 0);
    private static final Report NOTHING_DOWN = new Report(0, List.of());

    private final boolean[][] wired = new boolean[4][6];
    private final Map<Integer, Integer> bouncePattern = new HashMap<>();
    private final Map<Integer, Integer> bounceStart = new HashMap<>();
    private final List<boolean[][]> reads = new ArrayList<>();
    private final boolean[][] seen = new boolean[4][6];
    private final int[][] seenSince = new int[4][6];
    private final boolean[] believed = new boolean[24];
    private final List<Event> everything = new ArrayList<>();
    private final List<Event> queue = new ArrayList<>();
    private final Map<Integer, Action> actions = new HashMap<>();
    private final int[][] macros = new int[4][4];
    private final Chord[] chords = new Chord[4];
    private final Set<Integer> locked = new HashSet<>();
    private final Set<Integer> armed = new HashSet<>();
    private final List<Begun> begun = new ArrayList<>();
    private final List<Report> store = new ArrayList<>();
    private Report lastPut = NOTHING_DOWN;
    private Report lastTaken = NOTHING_DOWN;
    private boolean storeLate = false;
    private int now = 0;

    void wire(int key, boolean on) {
        indexIf(key < 0 || key > 23);
        wired[key / 6][key % 6] = on;
    }

    void bounce(int key, int pattern) {
        indexIf(key < 0 || key > 23);
        argumentIf(pattern < 0 || pattern > 255);
        bouncePattern.put(key, pattern);
        bounceStart.put(key, now);
    }

    int scans(int many) {
        argumentIf(many < 1 || many > 100);
        int sum = 0;
        for (int i = 0; i < many; i++) {
            sum += scan();
        }
        return sum;
    }

    int scan() {
        boolean[][] closed = new boolean[4][6];
        for (int key = 0; key < 24; key++) {
            closed[key / 6][key % 6] = wired[key / 6][key % 6] ^ bouncesNow(key);
        }
        boolean[][] read = new boolean[4][6];
        for (int r = 0; r < 4; r++) {
            for (int c = 0; c < 6; c++) {
                read[r][c] = closed[r][c] || otherThreeCorners(closed, r, c);
            }
        }
        reads.add(read);
        for (int r = 0; r < 4; r++) {
            for (int c = 0; c < 6; c++) {
                if (readOtherwiseFiveTimes(r, c)) {
                    seen[r][c] = !seen[r][c];
                    seenSince[r][c] = now + 1;
                }
            }
        }
        int before = everything.size();
        for (int key = 0; key < 24; key++) {
            boolean sees = seen[key / 6][key % 6];
            if (believed[key] && !sees) {
                believed[key] = false;
                bring(new Event(key, false, now));
            } else if (sees && !believed[key] && !otherThreeCorners(seen, key / 6, key % 6)) {
                believed[key] = true;
                bring(new Event(key, true, now));
            }
        }
        while (!queue.isEmpty() && takeFirst()) {
            continue;
        }
        now++;
        return everything.size() - before;
    }

    private boolean bouncesNow(int key) {
        int i = now - bounceStart.getOrDefault(key, 0);
        return i < 8 && (bouncePattern.getOrDefault(key, 0) / (1 << i)) % 2 == 1;
    }

    private static boolean otherThreeCorners(boolean[][] keys, int row, int column) {
        for (int r = 0; r < 4; r++) {
            for (int c = 0; c < 6; c++) {
                if (r != row && c != column && keys[row][c] && keys[r][column] && keys[r][c]) {
                    return true;
                }
            }
        }
        return false;
    }

    private boolean readOtherwiseFiveTimes(int row, int column) {
        if (now - 4 < seenSince[row][column]) {
            return false;
        }
        for (int scan = now - 4; scan <= now; scan++) {
            if (reads.get(scan)[row][column] == seen[row][column]) {
                return false;
            }
        }
        return true;
    }

    private void bring(Event event) {
        everything.add(event);
        queue.add(event);
    }

    private boolean takeFirst() {
        Event first = queue.get(0);
        if (!first.press()) {
            queue.remove(0);
            endWhatBeganWith(first.key());
            return true;
        }
        List<Event> row = new ArrayList<>();
        for (Event event : queue) {
            if (!event.press() || event.scan() > first.scan() + 9) {
                break;
            }
            row.add(event);
        }
        if (row.size() == queue.size() && queue.size() <= 8 && now < first.scan() + 9) {
            for (Chord chord : chords) {
                if (chord != null && chord.keys().containsAll(keysOf(row)) && chord.keys().size() > row.size()) {
                    return false;
                }
            }
        }
        for (int m = 4; m >= 2; m--) {
            for (Chord chord : chords) {
                if (chord != null && chord.keys().size() == m && row.size() >= m
                        && keysOf(row.subList(0, m)).equals(chord.keys())) {
                    queue.subList(0, m).clear();
                    begun.add(new Begun(chord.keys(), chord.code(), 0));
                    codesChanged(0);
                    armed.clear();
                    return true;
                }
            }
        }
        return takeByAction(first);
    }

    private static Set<Integer> keysOf(List<Event> events) {
        Set<Integer> keys = new HashSet<>();
        for (Event event : events) {
            keys.add(event.key());
        }
        return keys;
    }

    private void endWhatBeganWith(int key) {
        for (Begun thing : new ArrayList<>(begun)) {
            if (thing.keys.contains(key)) {
                begun.remove(thing);
                if (thing.code != 0) {
                    codesChanged(0);
                }
            }
        }
    }

    private boolean takeByAction(Event press) {
        int key = press.key();
        int layer = top(key);
        Action action = layer == -1 ? NO_ACTION : actions.get(layer * 24 + key);
        String tap = action.kind() == GhostKeys.TAP ? tellTap(press) : "";
        if (tap.equals("not decided")) {
            return false;
        }
        queue.remove(0);
        if (action.kind() == GhostKeys.CODE) {
            begun.add(new Begun(Set.of(key), action.a(), 0));
            codesChanged(0);
        } else if (action.kind() == GhostKeys.HELD) {
            begun.add(new Begun(Set.of(key), 0, action.a()));
        } else if (action.kind() == GhostKeys.LOCK) {
            if (!locked.remove(action.a())) {
                locked.add(action.a());
            }
        } else if (action.kind() == GhostKeys.ARMED) {
            armed.add(action.a());
            return true;
        } else if (action.kind() == GhostKeys.MACRO) {
            for (int code : macros[action.a()]) {
                if (code != 0) {
                    codesChanged(code);
                    codesChanged(0);
                }
            }
        } else if (tap.equals("tap")) {
            codesChanged(action.a());
            codesChanged(0);
        } else if (tap.equals("held")) {
            begun.add(new Begun(Set.of(key), 0, action.b()));
        }
        armed.clear();
        return true;
    }

    private String tellTap(Event press) {
        for (int i = 1; i < queue.size(); i++) {
            Event event = queue.get(i);
            if (!event.press() && event.key() == press.key()) {
                return "tap";
            }
            if (!event.press()) {
                for (int j = 1; j < i; j++) {
                    if (queue.get(j).press() && queue.get(j).key() == event.key()) {
                        return "held";
                    }
                }
            }
        }
        return now >= press.scan() + 20 || queue.size() > 8 ? "held" : "not decided";
    }

    /** A code went down or was let go; besides what was begun one code may be down for a moment. */
    private void codesChanged(int momentary) {
        Report report = reportNow(momentary);
        if (report.equals(lastPut)) {
            return;
        }
        if (store.size() == 8) {
            storeLate = true;
        } else {
            store.add(report);
            lastPut = report;
        }
    }

    private Report reportNow(int momentary) {
        Set<Integer> down = new TreeSet<>();
        down.add(momentary);
        for (Begun thing : begun) {
            down.add(thing.code);
        }
        down.remove(0);
        int modifiers = 0;
        List<Integer> codes = new ArrayList<>();
        for (int code : down) {
            if (code >= 100) {
                modifiers += 1 << (code - 100);
            } else {
                codes.add(code);
            }
        }
        return new Report(modifiers, codes.size() > 6 ? List.of(1, 1, 1, 1, 1, 1) : codes);
    }

    boolean poll() {
        if (store.isEmpty()) {
            return false;
        }
        lastTaken = store.remove(0);
        if (storeLate) {
            storeLate = false;
            codesChanged(0);
        }
        return true;
    }

    int report(int what) {
        if (what < 0 || what > 6) {
            return -1;
        }
        if (what == 0) {
            return lastTaken.modifiers();
        }
        return what <= lastTaken.codes().size() ? lastTaken.codes().get(what - 1) : 0;
    }

    int waiting() {
        return store.size();
    }

    boolean late() {
        return storeLate;
    }

    void map(int layer, int key, int kind, int a, int b) {
        indexIf(layer < 0 || layer > 3 || key < 0 || key > 23);
        argumentIf(kind < 0 || kind > 6);
        argumentIf((kind == GhostKeys.CODE || kind == GhostKeys.TAP) && (a < 4 || a > 107));
        argumentIf((kind == GhostKeys.HELD || kind == GhostKeys.LOCK || kind == GhostKeys.ARMED)
                && (a < 1 || a > 3));
        argumentIf(kind == GhostKeys.TAP && (b < 1 || b > 3));
        argumentIf(kind == GhostKeys.MACRO && (a < 0 || a > 3));
        actions.put(layer * 24 + key, new Action(kind, a, b));
    }

    void macro(int m, int i, int code) {
        indexIf(m < 0 || m > 3 || i < 0 || i > 3);
        argumentIf(code != 0 && (code < 4 || code > 107));
        macros[m][i] = code;
    }

    void chord(int c, int keys, int code) {
        indexIf(c < 0 || c > 3);
        Set<Integer> set = new HashSet<>();
        for (int bit = 0; bit < 32; bit++) {
            if ((keys >>> bit) % 2 != 0) {
                set.add(bit);
                argumentIf(bit > 23);
            }
        }
        argumentIf(set.size() == 1 || set.size() > 4);
        argumentIf(!set.isEmpty() && (code < 4 || code > 107));
        for (int i = 0; i < 4; i++) {
            if (i != c && chords[i] != null && chords[i].keys().equals(set)) {
                throw new IllegalStateException();
            }
        }
        chords[c] = set.isEmpty() ? null : new Chord(set, code);
    }

    boolean on(int layer) {
        indexIf(layer < 0 || layer > 3);
        boolean held = false;
        for (Begun thing : begun) {
            held |= thing.layer != 0 && thing.layer == layer;
        }
        return layer == 0 || held || locked.contains(layer) || armed.contains(layer);
    }

    int top(int key) {
        indexIf(key < 0 || key > 23);
        int top = -1;
        for (int layer = 0; layer < 4; layer++) {
            if (on(layer) && actions.getOrDefault(layer * 24 + key, NO_ACTION).kind() != GhostKeys.NOTHING) {
                top = layer;
            }
        }
        return top;
    }

    int key(int key, int what) {
        indexIf(key < 0 || key > 23 || what < 0 || what > 3);
        boolean sees = seen[key / 6][key % 6];
        boolean[] answers = {
            !reads.isEmpty() && reads.get(reads.size() - 1)[key / 6][key % 6],
            sees,
            believed[key],
            sees && !believed[key],
        };
        return answers[what] ? 1 : 0;
    }

    int queued() {
        return queue.size();
    }

    int history(int i) {
        if (i < 0 || i > 31 || i >= everything.size()) {
            return -1;
        }
        Event event = everything.get(everything.size() - 1 - i);
        return 2 * event.key() + (event.press() ? 1 : 0);
    }

    private static void indexIf(boolean wrong) {
        if (wrong) {
            throw new IndexOutOfBoundsException();
        }
    }

    private static void argumentIf(boolean wrong) {
        if (wrong) {
            throw new IllegalArgumentException();
        }
    }
}
