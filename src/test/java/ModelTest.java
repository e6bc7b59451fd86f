import java.util.Random;
import java.util.function.LongSupplier;

/** Random runs of calls, each of them answered by the class and by the model alike. */
public final class ModelTest {
    private static final int RUNS = 4000;
    /** The document says nothing of later calls. */
    private static final int CALLS = 512;
    /** So many calls look at all at the end of a run. */
    private static final int LAST_LOOK = 3 + 7 + 32 + 4 + 5 * 24;
    /** More than one step of a run ever makes. */
    private static final int STEP = 30;
    private static final int INDEX = 1_000_001;
    private static final int ARGUMENT = 1_000_002;
    private static final int STATE = 1_000_003;
    private static final int SLIP = 1_000_004;
    /** Stars of one row and one column, without a ghost; and rectangles, with many. */
    private static final int[][] KEY_SETS = {
        {0, 1, 2, 3, 4, 5},
        {0, 1, 2, 3, 4, 11, 17, 23},
        {0, 1, 2, 6, 7, 8},
        {3, 9, 15, 21, 22},
        {0, 1, 2, 3, 4, 5, 6, 7, 8, 9, 10, 11, 12, 13, 14, 15, 16, 17, 18, 19, 20, 21, 22, 23},
    };

    private final Random random;
    private final int[] keys;
    private final GhostKeys x = new GhostKeys();
    private final Model model = new Model();
    private final String name;
    /** The action that keys mostly have in this run, and how many of 100 wirings are on. */
    private final int favourite;
    private final int wiredOn;
    private int calls = 0;

    private ModelTest(int run) {
        random = new Random(run);
        keys = KEY_SETS[run % KEY_SETS.length];
        name = "run " + run;
        favourite = random.nextInt(7);
        wiredOn = 45 + random.nextInt(45);
    }

    public static void main(String[] args) {
        for (int run = 0; run < RUNS && Check.wrong() == 0; run++) {
            new ModelTest(run).play();
        }
        Check.end();
    }

    private void play() {
        for (int key : keys) {
            int a = favourite == GhostKeys.CODE || favourite == GhostKeys.TAP ? someCode() : 1 + random.nextInt(3);
            mapBoth(0, key, favourite, a, 1);
        }
        for (int i = random.nextInt(25); i > 0; i--) {
            mapOne();
        }
        for (int i = random.nextInt(6); i > 0; i--) {
            chordOne();
            macroOne();
        }
        while (calls + STEP + LAST_LOOK <= CALLS && Check.wrong() == 0) {
            step();
            lookAtOne();
        }
        lookAtAll();
        Check.due(name + ": at most " + CALLS + " calls", calls <= CALLS, true);
    }

    private void step() {
        int dice = random.nextInt(100);
        if (dice < 40) {
            int key = someKey();
            boolean on = random.nextInt(100) < wiredOn;
            same("wire " + key + on, () -> done(() -> x.wire(key, on)), () -> done(() -> model.wire(key, on)));
        } else if (dice < 70) {
            int many = random.nextInt(10) == 0 ? random.nextInt(104) - 1 : 1 + random.nextInt(7);
            same("scans " + many, () -> x.scans(many), () -> model.scans(many));
        } else if (dice < 76) {
            same("scan", () -> x.scan(), () -> model.scan());
        } else if (dice < 84) {
            same("poll", () -> x.poll() ? 1 : 0, () -> model.poll() ? 1 : 0);
        } else if (dice < 90) {
            int key = someKey();
            int pattern = random.nextInt(20) == 0 ? random.nextInt(600) - 200 : random.nextInt(256);
            same("bounce " + key + ", " + pattern,
                    () -> done(() -> x.bounce(key, pattern)), () -> done(() -> model.bounce(key, pattern)));
        } else if (dice < 91) {
            mapOne();
        } else if (dice < 92) {
            macroOne();
        } else if (dice < 94) {
            chordOne();
        } else {
            wireSeveral();
        }
    }

    private void wireSeveral() {
        boolean on = random.nextInt(100) < wiredOn;
        for (int key : keys) {
            if (random.nextInt(3) != 0) {
                same("wire " + key + on, () -> done(() -> x.wire(key, on)), () -> done(() -> model.wire(key, on)));
            }
        }
    }

    private void mapOne() {
        int layer = random.nextInt(40) == 0 ? random.nextInt(8) - 2 : random.nextInt(4);
        int key = someKey();
        int kind = random.nextInt(40) == 0 ? random.nextInt(12) - 2
                : random.nextBoolean() ? favourite : random.nextInt(7);
        boolean wantsCode = kind == GhostKeys.CODE || kind == GhostKeys.TAP;
        int a = random.nextInt(40) == 0 ? random.nextInt(130) - 5 : wantsCode ? someCode() : 1 + random.nextInt(3);
        int b = random.nextInt(40) == 0 ? random.nextInt(10) - 3 : 1 + random.nextInt(3);
        mapBoth(layer, key, kind, a, b);
    }

    private void mapBoth(int layer, int key, int kind, int a, int b) {
        same("map " + layer + ", " + key + ", " + kind + ", " + a + ", " + b,
                () -> done(() -> x.map(layer, key, kind, a, b)), () -> done(() -> model.map(layer, key, kind, a, b)));
    }

    private void macroOne() {
        int m = random.nextInt(20) == 0 ? random.nextInt(8) - 2 : random.nextInt(4);
        int place = random.nextInt(20) == 0 ? random.nextInt(8) - 2 : random.nextInt(4);
        int code = random.nextInt(4) == 0 ? random.nextInt(112) - 2 : someCode();
        same("macro " + m + ", " + place + ", " + code,
                () -> done(() -> x.macro(m, place, code)), () -> done(() -> model.macro(m, place, code)));
    }

    private void chordOne() {
        int c = random.nextInt(20) == 0 ? random.nextInt(8) - 2 : random.nextInt(4);
        int mask = 0;
        for (int i = random.nextInt(6); i >= 0; i--) {
            mask |= 1 << keys[random.nextInt(keys.length)];
        }
        int chordKeys = random.nextInt(10) == 0 ? random.nextInt() & random.nextInt() & random.nextInt() : mask;
        int code = random.nextInt(20) == 0 ? random.nextInt(112) - 2 : someCode();
        same("chord " + c + ", " + chordKeys + ", " + code,
                () -> done(() -> x.chord(c, chordKeys, code)), () -> done(() -> model.chord(c, chordKeys, code)));
    }

    /** Looks at something that a slip soon shows in; now and then at a number outside, too. */
    private void lookAtOne() {
        int what = random.nextInt(35) - 1;
        int quarter = Math.floorDiv(what, 4);
        int seventh = Math.floorDiv(what, 7);
        switch (random.nextInt(9)) {
            case 0 -> same("waiting", () -> x.waiting(), () -> model.waiting());
            case 1 -> same("late", () -> x.late() ? 1 : 0, () -> model.late() ? 1 : 0);
            case 2 -> same("queued", () -> x.queued(), () -> model.queued());
            case 3 -> same("report " + quarter, () -> x.report(quarter), () -> model.report(quarter));
            case 4 -> same("history " + what, () -> x.history(what), () -> model.history(what));
            case 5 -> same("on " + seventh, () -> x.on(seventh) ? 1 : 0, () -> model.on(seventh) ? 1 : 0);
            case 6 -> same("top " + what, () -> x.top(what), () -> model.top(what));
            default -> {
                int key = someKey();
                same("key " + key + ", " + seventh, () -> x.key(key, seventh), () -> model.key(key, seventh));
            }
        }
    }

    private void lookAtAll() {
        same("waiting", () -> x.waiting(), () -> model.waiting());
        same("late", () -> x.late() ? 1 : 0, () -> model.late() ? 1 : 0);
        same("queued", () -> x.queued(), () -> model.queued());
        for (int n = 0; n <= 6; n++) {
            int what = n;
            same("report " + what, () -> x.report(what), () -> model.report(what));
        }
        for (int n = 0; n <= 31; n++) {
            int what = n;
            same("history " + what, () -> x.history(what), () -> model.history(what));
        }
        for (int n = 0; n <= 3; n++) {
            int layer = n;
            same("on " + layer, () -> x.on(layer) ? 1 : 0, () -> model.on(layer) ? 1 : 0);
        }
        for (int n = 0; n < 24; n++) {
            int key = n;
            same("top " + key, () -> x.top(key), () -> model.top(key));
            for (int what = 0; what <= 3; what++) {
                int part = what;
                same("key " + key + ", " + part, () -> x.key(key, part), () -> model.key(key, part));
            }
        }
    }

    private int someKey() {
        return random.nextInt(60) == 0 ? random.nextInt(30) - 3 : keys[random.nextInt(keys.length)];
    }

    /** Few codes, so that several keys hold the same one; modifiers are among them. */
    private int someCode() {
        return random.nextInt(5) == 0 ? 100 + random.nextInt(8) : 4 + random.nextInt(96) / 5 * 5;
    }

    private void same(String what, LongSupplier got, LongSupplier want) {
        calls++;
        Check.due(name + ", call " + calls + ": " + what, answer(got), answer(want));
    }

    private static long done(Runnable call) {
        call.run();
        return 0;
    }

    private static long answer(LongSupplier call) {
        try {
            return call.getAsLong();
        } catch (IndexOutOfBoundsException e) {
            // An array's own exception is a slip of the program, not the one that is due.
            return e.getClass() == IndexOutOfBoundsException.class ? INDEX : SLIP;
        } catch (IllegalStateException e) {
            return STATE;
        } catch (IllegalArgumentException e) {
            return ARGUMENT;
        }
    }
}
