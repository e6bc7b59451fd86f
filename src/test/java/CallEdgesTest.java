import java.util.ArrayList;
import java.util.List;
import java.util.function.Consumer;

/**
 * The first and the last number that each call takes, and the ones just outside, which it refuses:
 * by the exception that is listed first, and without a change, whatever the object was about to do.
 */
public final class CallEdgesTest {
    private static final Class<? extends RuntimeException> INDEX = IndexOutOfBoundsException.class;
    private static final Class<? extends RuntimeException> ARGUMENT = IllegalArgumentException.class;
    private static final Class<? extends RuntimeException> STATE = IllegalStateException.class;

    private record Refused(String name, Class<? extends RuntimeException> due, Consumer<GhostKeys> call) {
    }

    private record Situation(String name, Consumer<GhostKeys> calls) {
    }

    public static void main(String[] args) {
        keysTaken();
        layersTaken();
        patternsTaken();
        scansTaken();
        kindsTaken();
        codesTaken();
        macrosTaken();
        chordsTaken();
        chordKeysThatAnotherHas();
        chordWithoutKeys();
        partsOfAKeyTaken();
        answersForEveryNumber();
        for (Refused refused : allRefused()) {
            for (Situation situation : situations()) {
                changesNothing(refused, situation);
            }
        }
        mappingsStay();
        macrosStay();
        chordsStay();
        Check.end();
    }

    /** "there is no such key": 0 and 23 are. */
    private static void keysTaken() {
        for (int key : new int[] {0, 23}) {
            GhostKeys x = new GhostKeys();
            x.wire(key, true);
            x.bounce(key, 0);
            x.map(0, key, GhostKeys.CODE, 20, 0);
            Check.due("top of " + key, x.top(key), 0);
            x.scans(5);
            Check.due("key " + key, x.key(key, 2), 1);
            Check.report("by key " + key, x, 0, 20);
        }
    }

    /** "or layer": 0 and 3 are. */
    private static void layersTaken() {
        GhostKeys x = new GhostKeys();
        x.map(0, 0, GhostKeys.LOCK, 3, 0);
        x.map(3, 1, GhostKeys.CODE, 20, 0);
        Check.due("layer 0", x.on(0), true);
        Check.due("layer 3", x.on(3), false);
        Check.due("layer 3 is off", x.top(1), -1);
        Check.press(x, 0);
        Check.due("layer 3", x.on(3), true);
        Check.due("layer 3 is on", x.top(1), 3);
    }

    private static void patternsTaken() {
        GhostKeys x = new GhostKeys();
        x.bounce(0, 255);
        x.bounce(1, 0);
        x.scan();
        Check.due("255", x.key(0, 0), 1);
        Check.due("0", x.key(1, 0), 0);
    }

    /** "many is not 1 .. 100". */
    private static void scansTaken() {
        GhostKeys x = new GhostKeys();
        x.wire(0, true);
        for (int i = 1; i <= 5; i++) {
            Check.due("1", x.scans(1), i == 5 ? 1 : 0);
        }
        x.wire(0, false);
        Check.due("100", x.scans(100), 1);
    }

    /** "the kind is not 0 .. 6, or a, or b, is not what it asks for". */
    private static void kindsTaken() {
        int[][] edges = {
            {GhostKeys.CODE, 4, 0}, {GhostKeys.CODE, 107, 0}, {GhostKeys.HELD, 1, 0}, {GhostKeys.HELD, 3, 0},
            {GhostKeys.LOCK, 1, 0}, {GhostKeys.LOCK, 3, 0}, {GhostKeys.ARMED, 1, 0}, {GhostKeys.ARMED, 3, 0},
            {GhostKeys.TAP, 4, 1}, {GhostKeys.TAP, 107, 3}, {GhostKeys.MACRO, 0, 0}, {GhostKeys.MACRO, 3, 0},
        };
        for (int[] edge : edges) {
            GhostKeys x = new GhostKeys();
            x.map(0, 0, edge[0], edge[1], edge[2]);
            Check.due("kind " + edge[0] + ", " + edge[1], x.top(0), 0);
            x.map(0, 0, GhostKeys.NOTHING, 0, 0);
            Check.due("NOTHING again", x.top(0), -1);
        }
    }

    /** "Codes are 4 .. 107": for each call that takes one. */
    private static void codesTaken() {
        for (int code : new int[] {4, 99, 100, 107}) {
            GhostKeys x = new GhostKeys();
            int modifiers = code < 100 ? 0 : 1 << (code - 100);
            int[] codes = code < 100 ? new int[] {code} : new int[0];
            x.map(0, 0, GhostKeys.TAP, code, 1);
            x.map(0, 1, GhostKeys.MACRO, 0, 0);
            x.macro(0, 0, code);
            x.chord(0, 0b1100, code);
            Check.tap(x, 0);
            Check.report("TAP " + code, x, modifiers, codes);
            Check.report("let go", x, 0);
            Check.tap(x, 1);
            Check.report("macro " + code, x, modifiers, codes);
            Check.report("let go", x, 0);
            Check.press(x, 2, 3);
            Check.report("chord " + code, x, modifiers, codes);
        }
    }

    private static void macrosTaken() {
        GhostKeys x = new GhostKeys();
        x.map(0, 0, GhostKeys.MACRO, 3, 0);
        x.macro(3, 3, 107);
        x.macro(3, 0, 4);
        x.macro(3, 3, 0);
        x.macro(0, 3, 30);
        Check.press(x, 0);
        Check.report("the first code", x, 0, 4);
        Check.report("let go", x, 0);
        Check.due("0 for none", x.waiting(), 0);
    }

    /** "keys has one, or more than 4 bits set, or others than 0 .. 23". */
    private static void chordsTaken() {
        for (int c : new int[] {0, 3}) {
            for (int keys : new int[] {0b11, 0b1111, 1 << 23 | 1, 1 << 22 | 1 << 23, 0b1111 << 20}) {
                GhostKeys x = new GhostKeys();
                x.chord(c, keys, 50);
                for (int key = 0; key < 24; key++) {
                    x.wire(key, (keys >> key & 1) != 0);
                }
                x.scans(5);
                Check.report("chord " + c + " of " + keys, x, 0, 50);
            }
        }
    }

    /** "another chord has just these keys": the same chord, or more or fewer keys are none such. */
    private static void chordKeysThatAnotherHas() {
        GhostKeys x = new GhostKeys();
        x.chord(0, 0b111, 50);
        x.chord(1, 0b011, 51);
        x.chord(2, 0b1111, 52);
        x.chord(3, 0b110, 53);
        x.chord(0, 0b111, 54);
        for (int c = 1; c <= 3; c++) {
            int number = c;
            Check.state("the keys of 0 for " + c, () -> x.chord(number, 0b111, 60));
        }
        Check.state("the keys of 3 for 0", () -> x.chord(0, 0b110, 60));
        x.chord(3, 0b1010, 53);
        x.chord(0, 0b110, 54);
        Check.state("taken anew", () -> x.chord(3, 0b110, 60));
        x.chord(0, 0, 0);
        x.chord(3, 0b110, 55);
        Check.press(x, 1, 2);
        x.scans(9);
        Check.report("free once the other has none", x, 0, 55);
    }

    /** "without keys there is none": whatever the code, and however many chords are without keys. */
    private static void chordWithoutKeys() {
        GhostKeys x = new GhostKeys();
        Check.codes(x, 20, 21);
        for (int code : new int[] {0, 3, 4, 107, 108, -1, Integer.MIN_VALUE, Integer.MAX_VALUE}) {
            for (int c = 0; c <= 3; c++) {
                x.chord(c, 0, code);
            }
        }
        Check.press(x, 0, 1);
        Check.due("nothing to wait for", x.queued(), 0);
        Check.report("0", x, 0, 20);
        Check.report("1", x, 0, 20, 21);
    }

    /** "0 whether it was READ in the last scan, 1 whether it is SEEN, 2 ... 3 ...". */
    private static void partsOfAKeyTaken() {
        GhostKeys x = new GhostKeys();
        Check.press(x, 0, 1);
        Check.press(x, 6);
        x.bounce(6, 1);
        x.scan();
        int[][] due = {{0, 1, 1, 1, 0}, {1, 1, 1, 1, 0}, {6, 0, 1, 0, 1}, {7, 0, 1, 0, 1}, {8, 0, 0, 0, 0}};
        for (int[] row : due) {
            for (int what = 0; what <= 3; what++) {
                Check.due("key " + row[0] + ", " + what, x.key(row[0], what), row[what + 1]);
            }
        }
    }

    /** report and history refuse nothing: another number answers NONE. */
    private static void answersForEveryNumber() {
        GhostKeys x = new GhostKeys();
        int[] numbers = {-1, -2, 7, 32, 33, 64, Integer.MIN_VALUE, Integer.MAX_VALUE, Integer.MIN_VALUE + 1};
        for (int n : numbers) {
            if (n != 7) {
                Check.due("history " + n, x.history(n), GhostKeys.NONE);
            }
            Check.due("report " + n, x.report(n), GhostKeys.NONE);
        }
    }

    private static final int[] OUTSIDE_KEYS = {-1, 24, 32, Integer.MIN_VALUE, Integer.MAX_VALUE};
    private static final int[] OUTSIDE_FOUR = {-1, 4, Integer.MIN_VALUE, Integer.MAX_VALUE};
    private static final int[] OUTSIDE_UPPER = {-1, 0, 4, Integer.MIN_VALUE, Integer.MAX_VALUE};
    private static final int[] OUTSIDE_CODES = {-1, 0, 3, 108, Integer.MIN_VALUE, Integer.MAX_VALUE};

    private static List<Refused> allRefused() {
        List<Refused> all = new ArrayList<>();
        refusedKeys(all);
        refusedLayersAndMacros(all);
        refusedActions(all);
        refusedChords(all);
        for (int pattern : new int[] {-1, 256, 257, Integer.MIN_VALUE, Integer.MAX_VALUE}) {
            all.add(new Refused("bounce 0, " + pattern, ARGUMENT, x -> x.bounce(0, pattern)));
            all.add(new Refused("bounce 23, " + pattern, ARGUMENT, x -> x.bounce(23, pattern)));
        }
        for (int many : new int[] {0, -1, 101, Integer.MIN_VALUE, Integer.MAX_VALUE}) {
            all.add(new Refused("scans " + many, ARGUMENT, x -> x.scans(many)));
        }
        return all;
    }

    private static void refusedKeys(List<Refused> all) {
        for (int key : OUTSIDE_KEYS) {
            all.add(new Refused("wire on " + key, INDEX, x -> x.wire(key, true)));
            all.add(new Refused("wire off " + key, INDEX, x -> x.wire(key, false)));
            all.add(new Refused("bounce " + key, INDEX, x -> x.bounce(key, 255)));
            all.add(new Refused("bounce, both wrong " + key, INDEX, x -> x.bounce(key, 256)));
            all.add(new Refused("map in 0 " + key, INDEX, x -> x.map(0, key, GhostKeys.CODE, 90, 0)));
            all.add(new Refused("map in 3 " + key, INDEX, x -> x.map(3, key, GhostKeys.NOTHING, 0, 0)));
            all.add(new Refused("map, all wrong " + key, INDEX, x -> x.map(4, key, 7, 0, 0)));
            all.add(new Refused("map, key and a wrong " + key, INDEX, x -> x.map(0, key, GhostKeys.CODE, 3, 0)));
            all.add(new Refused("map, key and kind wrong " + key, INDEX, x -> x.map(0, key, 7, 20, 0)));
            all.add(new Refused("top " + key, INDEX, x -> x.top(key)));
            all.add(new Refused("key " + key, INDEX, x -> x.key(key, 0)));
            all.add(new Refused("key, both wrong " + key, INDEX, x -> x.key(key, 4)));
        }
        for (int what : OUTSIDE_FOUR) {
            all.add(new Refused("key 0, " + what, INDEX, x -> x.key(0, what)));
            all.add(new Refused("key 23, " + what, INDEX, x -> x.key(23, what)));
        }
    }

    private static void refusedLayersAndMacros(List<Refused> all) {
        for (int n : OUTSIDE_FOUR) {
            all.add(new Refused("on " + n, INDEX, x -> x.on(n)));
            all.add(new Refused("map layer " + n, INDEX, x -> x.map(n, 0, GhostKeys.CODE, 90, 0)));
            all.add(new Refused("map, layer and kind wrong " + n, INDEX, x -> x.map(n, 0, -1, 90, 0)));
            all.add(new Refused("map, layer and b wrong " + n, INDEX, x -> x.map(n, 23, GhostKeys.TAP, 90, 0)));
            all.add(new Refused("macro " + n + ", 0", INDEX, x -> x.macro(n, 0, 90)));
            all.add(new Refused("macro " + n + ", 3", INDEX, x -> x.macro(n, 3, 90)));
            all.add(new Refused("macro 0, " + n, INDEX, x -> x.macro(0, n, 90)));
            all.add(new Refused("macro 3, " + n, INDEX, x -> x.macro(3, n, 0)));
            all.add(new Refused("macro, number and code wrong " + n, INDEX, x -> x.macro(n, 0, 3)));
            all.add(new Refused("macro, place and code wrong " + n, INDEX, x -> x.macro(0, n, 108)));
        }
        for (int code : new int[] {-1, 1, 2, 3, 108, Integer.MIN_VALUE, Integer.MAX_VALUE}) {
            all.add(new Refused("macro 0, 0, " + code, ARGUMENT, x -> x.macro(0, 0, code)));
            all.add(new Refused("macro 3, 3, " + code, ARGUMENT, x -> x.macro(3, 3, code)));
        }
    }

    private static void refusedActions(List<Refused> all) {
        for (int kind : new int[] {-1, 7, Integer.MIN_VALUE, Integer.MAX_VALUE}) {
            all.add(new Refused("kind " + kind, ARGUMENT, x -> x.map(0, 0, kind, 1, 1)));
        }
        for (int code : OUTSIDE_CODES) {
            all.add(new Refused("CODE " + code, ARGUMENT, x -> x.map(0, 0, GhostKeys.CODE, code, 1)));
            all.add(new Refused("CODE in 3 " + code, ARGUMENT, x -> x.map(3, 23, GhostKeys.CODE, code, 1)));
            all.add(new Refused("TAP " + code, ARGUMENT, x -> x.map(0, 2, GhostKeys.TAP, code, 1)));
        }
        for (int layer : OUTSIDE_UPPER) {
            all.add(new Refused("HELD " + layer, ARGUMENT, x -> x.map(0, 4, GhostKeys.HELD, layer, 1)));
            all.add(new Refused("LOCK " + layer, ARGUMENT, x -> x.map(0, 23, GhostKeys.LOCK, layer, 1)));
            all.add(new Refused("ARMED " + layer, ARGUMENT, x -> x.map(0, 11, GhostKeys.ARMED, layer, 1)));
            all.add(new Refused("TAP's layer " + layer, ARGUMENT, x -> x.map(0, 2, GhostKeys.TAP, 90, layer)));
        }
        for (int m : OUTSIDE_FOUR) {
            all.add(new Refused("MACRO " + m, ARGUMENT, x -> x.map(0, 3, GhostKeys.MACRO, m, 0)));
        }
    }

    private static void refusedChords(List<Refused> all) {
        for (int c : OUTSIDE_FOUR) {
            all.add(new Refused("chord " + c, INDEX, x -> x.chord(c, 0b101, 90)));
            all.add(new Refused("chord without keys " + c, INDEX, x -> x.chord(c, 0, 0)));
            all.add(new Refused("chord, keys wrong " + c, INDEX, x -> x.chord(c, 1, 90)));
            all.add(new Refused("chord, code wrong " + c, INDEX, x -> x.chord(c, 0b101, 3)));
            all.add(new Refused("chord, another's keys " + c, INDEX, x -> x.chord(c, 0b11, 90)));
        }
        int[] wrongKeys = {1, 1 << 23, 1 << 24, Integer.MIN_VALUE, 0b11111, 0xffffff, -1, 1 << 24 | 1,
            1 << 24 | 0b11, 1 << 30 | 0b111, Integer.MIN_VALUE | 0b11, 1 << 24 | 1 << 25, 0b11111 << 19};
        for (int keys : wrongKeys) {
            all.add(new Refused("chord 0 of " + keys, ARGUMENT, x -> x.chord(0, keys, 90)));
            all.add(new Refused("chord 3 of " + keys, ARGUMENT, x -> x.chord(3, keys, 90)));
            all.add(new Refused("chord, both wrong, of " + keys, ARGUMENT, x -> x.chord(3, keys, 0)));
        }
        for (int code : OUTSIDE_CODES) {
            all.add(new Refused("chord 0, code " + code, ARGUMENT, x -> x.chord(0, 0b11, code)));
            all.add(new Refused("chord 3, code " + code, ARGUMENT, x -> x.chord(3, 0b10111, code)));
            all.add(new Refused("another's keys, code " + code, ARGUMENT, x -> x.chord(3, 0b11, code)));
        }
        for (int c = 1; c <= 3; c++) {
            int number = c;
            all.add(new Refused("the keys of chord 0 for " + c, STATE, x -> x.chord(number, 0b11, 90)));
        }
        all.add(new Refused("the keys of chord 3", STATE, x -> x.chord(0, 0b11010, 90)));
    }

    /** What an object may be about to do when a call is refused; each is one scan before a change. */
    private static List<Situation> situations() {
        return List.of(
                new Situation("at rest", x -> x.scans(1)),
                new Situation("before the fifth scan, in a bounce", x -> {
                    x.wire(0, true);
                    x.wire(23, true);
                    x.bounce(1, 0b10101010);
                    x.scans(4);
                    x.bounce(23, 0b11010100);
                    x.bounce(0, 0b01101000);
                }),
                new Situation("before a chord's time is over", x -> {
                    Check.press(x, 0);
                    x.scans(8);
                }),
                new Situation("before a tap's time is over", x -> {
                    Check.press(x, 2);
                    Check.press(x, 23);
                    x.scans(14);
                }),
                new Situation("armed, held, a code down", x -> {
                    Check.press(x, 4);
                    Check.press(x, 0, 1);
                    Check.tap(x, 11);
                }),
                new Situation("late", x -> {
                    for (int i = 0; i < 3; i++) {
                        Check.tap(x, 3);
                    }
                    x.poll();
                    Check.tap(x, 17);
                }));
    }

    /** "A call that throws changes nothing; where it lists more than one exception, the first one wins." */
    private static void changesNothing(Refused refused, Situation situation) {
        String what = refused.name() + ", " + situation.name();
        GhostKeys x = new GhostKeys();
        GhostKeys y = new GhostKeys();
        Twins.layOut(x);
        Twins.layOut(y);
        situation.calls().accept(x);
        situation.calls().accept(y);
        Check.refused(what, () -> refused.call().accept(x), refused.due());
        Twins.same(what, x, y);
        Twins.goOnAlike(what, x, y);
    }

    /** Every key in every layer keeps its action when a neighbour outside is refused. */
    private static void mappingsStay() {
        for (int layer = 0; layer <= 3; layer++) {
            GhostKeys x = new GhostKeys();
            for (int key = 0; key < 24; key++) {
                if (key % 2 == 0) {
                    x.map(layer, key, GhostKeys.CODE, 20, 0);
                }
            }
            if (layer > 0) {
                x.map(0, 23, GhostKeys.LOCK, layer, 0);
                Check.tap(x, 23);
            }
            for (int key : OUTSIDE_KEYS) {
                int own = layer;
                Check.index("key " + key, () -> x.map(own, key, GhostKeys.CODE, 90, 0));
            }
            for (int other : OUTSIDE_FOUR) {
                Check.index("layer " + other, () -> x.map(other, 1, GhostKeys.CODE, 90, 0));
                Check.index("layer " + other, () -> x.map(other, 2, GhostKeys.NOTHING, 0, 0));
            }
            for (int key = 0; key < 23; key++) {
                Check.due("layer " + layer + ", key " + key, x.top(key), key % 2 == 0 ? layer : -1);
            }
        }
    }

    /** All sixteen codes of the macros stay when a neighbour outside is refused. */
    private static void macrosStay() {
        GhostKeys x = new GhostKeys();
        for (int m = 0; m <= 3; m++) {
            x.map(0, m, GhostKeys.MACRO, m, 0);
            for (int i = 0; i <= 3; i++) {
                x.macro(m, i, 10 + 10 * m + i);
            }
        }
        for (int n : OUTSIDE_FOUR) {
            for (int in = 0; in <= 3; in++) {
                int inside = in;
                Check.index("macro " + n, () -> x.macro(n, inside, 90));
                Check.index("place " + n, () -> x.macro(inside, n, 90));
                Check.argument("code", () -> x.macro(inside, inside, n == 4 ? 108 : n));
            }
        }
        for (int m = 0; m <= 3; m++) {
            Check.press(x, m);
            for (int i = 0; i <= 3; i++) {
                Check.due("poll", x.poll(), true);
                Check.due("macro " + m + ", code " + i, x.report(1), 10 + 10 * m + i);
                Check.due("let go", x.poll(), true);
            }
            Check.due("no more", x.poll(), false);
        }
    }

    /** All four chords keep their keys and codes when a change of one of them is refused. */
    private static void chordsStay() {
        for (int c = 0; c <= 3; c++) {
            GhostKeys x = new GhostKeys();
            for (int i = 0; i <= 3; i++) {
                x.chord(i, 0b11 << i, 60 + i);
            }
            int number = c;
            int anothers = 0b11 << (c + 1) % 4;
            Check.state("another's keys", () -> x.chord(number, anothers, 90));
            Check.argument("another's keys, no code", () -> x.chord(number, anothers, 0));
            Check.argument("its own keys, no code", () -> x.chord(number, 0b11 << number, 3));
            Check.argument("new keys, no code", () -> x.chord(number, 0b10001, 108));
            Check.argument("one key", () -> x.chord(number, 1, 90));
            Check.argument("five keys", () -> x.chord(number, 0b11111, 90));
            for (int i = 0; i <= 3; i++) {
                Check.press(x, i, i + 1);
                Check.report("chord " + i + " behind refused ones of " + c, x, 0, 60 + i);
                Check.release(x, i, i + 1);
                Check.report("let go", x, 0);
            }
        }
    }
}
