/** What the project's tests share: comparing answers, and short ways to type on the keyboard. */
final class Check {
    /** A call that may throw. */
    interface Call {
        void run();
    }

    private static final int SHOWN = 20;
    private static int checks = 0;
    private static int wrong = 0;

    private Check() {
    }

    static void due(String what, long got, long want) {
        checks++;
        if (got != want) {
            complain(what + " answered " + got + ", due is " + want);
        }
    }

    static void due(String what, boolean got, boolean want) {
        due(what, got ? 1 : 0, want ? 1 : 0);
    }

    static void index(String what, Call call) {
        refused(what, call, IndexOutOfBoundsException.class);
    }

    static void argument(String what, Call call) {
        refused(what, call, IllegalArgumentException.class);
    }

    static void state(String what, Call call) {
        refused(what, call, IllegalStateException.class);
    }

    static void refused(String what, Call call, Class<? extends RuntimeException> want) {
        checks++;
        try {
            call.run();
            complain(what + " threw nothing, due is " + want.getSimpleName());
        } catch (RuntimeException e) {
            if (e.getClass() != want) {
                complain(what + " threw " + e.getClass().getSimpleName() + ", due is " + want.getSimpleName());
            }
        }
    }

    private static void complain(String text) {
        wrong++;
        if (wrong <= SHOWN) {
            System.out.println("  " + text);
        }
    }

    static int wrong() {
        return wrong;
    }

    /** Ends the test program, with exit code 1 if an answer was wrong. */
    static void end() {
        System.out.println("  " + checks + " checks, " + wrong + " wrong");
        if (wrong != 0 || checks == 0) {
            System.exit(1);
        }
    }

    /** Wires keys on and scans until they are seen. */
    static int press(GhostKeys x, int... keys) {
        for (int key : keys) {
            x.wire(key, true);
        }
        return x.scans(5);
    }

    /** Wires keys off and scans until they are seen no longer. */
    static int release(GhostKeys x, int... keys) {
        for (int key : keys) {
            x.wire(key, false);
        }
        return x.scans(5);
    }

    static int tap(GhostKeys x, int key) {
        return press(x, key) + release(x, key);
    }

    /** Maps keys from 0 on, in layer 0, to these codes. */
    static void codes(GhostKeys x, int... codes) {
        for (int key = 0; key < codes.length; key++) {
            x.map(0, key, GhostKeys.CODE, codes[key], 0);
        }
    }

    /** Takes one report, which must be there, and looks at all of it. */
    static void report(String what, GhostKeys x, int modifiers, int... codes) {
        due(what + ": poll", x.poll(), true);
        due(what + ": modifiers", x.report(0), modifiers);
        for (int i = 1; i <= 6; i++) {
            due(what + ": code " + i, x.report(i), i <= codes.length ? codes[i - 1] : 0);
        }
    }

    /** Empties the store. */
    static void drain(GhostKeys x) {
        for (int i = 0; i < 20 && x.poll(); i++) {
            continue;
        }
    }
}
