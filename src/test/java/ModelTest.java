import java.util.Random;
import java.util.function.LongSupplier;

/** Random runs of calls, each of them answered by the class and by the model alike. */
public final class ModelTest {
    private static final int RUNS = 1000;
    private static final int CALLS = 512;
    private static final int INDEX = 1_000_001;
    private static final int ARGUMENT = 1_000_002;
    private static final int STATE = 1_000_003;
    private static final int SLIP = 1_000_004;
    /** Stars of one row and one column, without a ghost; and rectangles, with many. */
    private static final int[][] KEY_SETS = {
        {0, 1, 2, 3, 4, 5},
        {0, 1, 2, 3, 4, 11, 17, 23},
        {0, 1, 2, 6, 7, 8},
        {3, 9, 15, 21, 22},
        {0, 1, 2, 3, 4, 5, 6, 7, 8, 9, 10, 11, 12, 13, 14, 15, 16, 17, 18, 19, 20, 21, 22, 23},
    };

    private final Random random;
    private final int[] keys;
    private final GhostKeys x = new GhostKeys();
    private final Model model = new Model();
    private final String name;
    /** The action that keys mostly have in this run, and how many of 100 wirings are on. */
    private final int favourite;
    private final int wiredOn;

    private ModelTest(int run) {
        random = new Random(run);
        keys = KEY_SETS[run % KEY_SETS.length];
        name = "run " + run;
        favourite = random.nextInt(7);
        wiredOn = 45 + random.nextInt(45);
    }

    public static void main(String[] args) {
        for (int run = 0; run < RUNS && Check.wrong() == 0; run++) {
            new ModelTest(run).play();
        }
        Check.end();
    }

    private void play() {
        for (int key : keys) {
            int a = favourite == GhostKeys.CODE || favourite == GhostKeys.TAP ? someCode() : 1 + random.nextInt(3);
            x.map(0, key, favourite, a, 1);
            model.map(0, key, favourite, a, 1);
        }
        for (int i = random.nextInt(25); i > 0; i--) {
            mapOne();
        }
        for (int i = random.nextInt(6); i > 0; i--) {
            chordOne();
            macroOne();
        }
        for (int i = 0; i < CALLS && Check.wrong() == 0; i++) {
            call(i);
            if (i % 8 == 0) {
                lookAtAll(i);
            }
        }
    }

    private void call(int i) {
        int dice = random.nextInt(100);
        if (dice < 40) {
            int key = someKey();
            boolean on = random.nextInt(100) < wiredOn;
            same(i, "wire " + key + on, () -> done(() -> x.wire(key, on)), () -> done(() -> model.wire(key, on)));
        } else if (dice < 70) {
            int many = random.nextInt(10) == 0 ? random.nextInt(104) - 1 : 1 + random.nextInt(7);
            same(i, "scans " + many, () -> x.scans(many), () -> model.scans(many));
        } else if (dice < 76) {
            same(i, "scan", () -> x.scan(), () -> model.scan());
        } else if (dice < 84) {
            same(i, "poll", () -> x.poll() ? 1 : 0, () -> model.poll() ? 1 : 0);
        } else if (dice < 90) {
            int key = someKey();
            int pattern = random.nextInt(20) == 0 ? random.nextInt(600) - 200 : random.nextInt(256);
            same(i, "bounce " + key + ", " + pattern,
                    () -> done(() -> x.bounce(key, pattern)), () -> done(() -> model.bounce(key, pattern)));
        } else if (dice < 91) {
            mapOne();
        } else if (dice < 92) {
            macroOne();
        } else if (dice < 94) {
            chordOne();
        } else {
            wireSeveral(i);
        }
    }

    private void wireSeveral(int i) {
        boolean on = random.nextInt(100) < wiredOn;
        for (int key : keys) {
            if (random.nextInt(3) != 0) {
                same(i, "wire " + key + on, () -> done(() -> x.wire(key, on)), () -> done(() -> model.wire(key, on)));
            }
        }
    }

    private void mapOne() {
        int layer = random.nextInt(40) == 0 ? random.nextInt(8) - 2 : random.nextInt(4);
        int key = someKey();
        int kind = random.nextInt(40) == 0 ? random.nextInt(12) - 2
                : random.nextBoolean() ? favourite : random.nextInt(7);
        boolean wantsCode = kind == GhostKeys.CODE || kind == GhostKeys.TAP;
        int a = random.nextInt(40) == 0 ? random.nextInt(130) - 5 : wantsCode ? someCode() : 1 + random.nextInt(3);
        int b = random.nextInt(40) == 0 ? random.nextInt(10) - 3 : 1 + random.nextInt(3);
        same(-1, "map " + layer + ", " + key + ", " + kind + ", " + a + ", " + b,
                () -> done(() -> x.map(layer, key, kind, a, b)), () -> done(() -> model.map(layer, key, kind, a, b)));
    }

    private void macroOne() {
        int m = random.nextInt(20) == 0 ? random.nextInt(8) - 2 : random.nextInt(4);
        int place = random.nextInt(20) == 0 ? random.nextInt(8) - 2 : random.nextInt(4);
        int code = random.nextInt(4) == 0 ? random.nextInt(112) - 2 : someCode();
        same(-1, "macro " + m + ", " + place + ", " + code,
                () -> done(() -> x.macro(m, place, code)), () -> done(() -> model.macro(m, place, code)));
    }

    private void chordOne() {
        int c = random.nextInt(20) == 0 ? random.nextInt(8) - 2 : random.nextInt(4);
        int mask = 0;
        for (int i = random.nextInt(6); i >= 0; i--) {
            mask |= 1 << keys[random.nextInt(keys.length)];
        }
        int chordKeys = random.nextInt(10) == 0 ? random.nextInt() & random.nextInt() & random.nextInt() : mask;
        int code = random.nextInt(20) == 0 ? random.nextInt(112) - 2 : someCode();
        same(-1, "chord " + c + ", " + chordKeys + ", " + code,
                () -> done(() -> x.chord(c, chordKeys, code)), () -> done(() -> model.chord(c, chordKeys, code)));
    }

    private void lookAtAll(int i) {
        same(i, "waiting", () -> x.waiting(), () -> model.waiting());
        same(i, "late", () -> x.late() ? 1 : 0, () -> model.late() ? 1 : 0);
        same(i, "queued", () -> x.queued(), () -> model.queued());
        for (int n = -1; n <= 33; n++) {
            int what = n;
            same(i, "report " + what, () -> x.report(what), () -> model.report(what));
            same(i, "history " + what, () -> x.history(what), () -> model.history(what));
        }
        for (int n = -1; n <= 24; n++) {
            int what = n;
            same(i, "on " + what, () -> x.on(what) ? 1 : 0, () -> model.on(what) ? 1 : 0);
            same(i, "top " + what, () -> x.top(what), () -> model.top(what));
            for (int part = -1; part <= 4; part++) {
                int side = part;
                same(i, "key " + what + ", " + side, () -> x.key(what, side), () -> model.key(what, side));
            }
        }
    }

    private int someKey() {
        return random.nextInt(60) == 0 ? random.nextInt(30) - 3 : keys[random.nextInt(keys.length)];
    }

    /** Few codes, so that several keys hold the same one; modifiers are among them. */
    private int someCode() {
        return random.nextInt(5) == 0 ? 100 + random.nextInt(8) : 4 + random.nextInt(96) / 5 * 5;
    }

    private void same(int i, String what, LongSupplier got, LongSupplier want) {
        Check.due(name + ", call " + i + ": " + what, answer(got), answer(want));
    }

    private static long done(Runnable call) {
        call.run();
        return 0;
    }

    private static long answer(LongSupplier call) {
        try {
            return call.getAsLong();
        } catch (IndexOutOfBoundsException e) {
            // An array's own exception is a slip of the program, not the one that is due.
            return e.getClass() == IndexOutOfBoundsException.class ? INDEX : SLIP;
        } catch (IllegalStateException e) {
            return STATE;
        } catch (IllegalArgumentException e) {
            return ARGUMENT;
        }
    }
}
