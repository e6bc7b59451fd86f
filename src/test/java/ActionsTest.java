/** Promises 10, 11, 13 and 14, and what is taken by the actions: layers, macros, and keys held or tapped. */
public final class ActionsTest {
    public static void main(String[] args) {
        wrongInputs();
        unusedNumbersAreFree();
        mapHoldsFromNowOn();
        releaseEndsWhatThePressBegan();
        highestLayerThatIsOn();
        held();
        heldByTwoKeys();
        lock();
        armed();
        armedByOneAndAnother();
        armedEndsWithAnyPress();
        lockedAndArmed();
        macro();
        macroOfAHeldCode();
        Check.end();
    }

    private static void wrongInputs() {
        GhostKeys x = new GhostKeys();
        for (int bad : new int[] {-1, 4, Integer.MIN_VALUE, Integer.MAX_VALUE}) {
            Check.index("map's layer", () -> x.map(bad, 0, 1, 20, 0));
            Check.index("map's layer, all wrong", () -> x.map(bad, 99, 9, 0, 0));
            Check.index("on", () -> x.on(bad));
            Check.index("macro's number", () -> x.macro(bad, 0, 20));
            Check.index("macro's place", () -> x.macro(0, bad, 20));
            Check.index("macro's place, all wrong", () -> x.macro(0, bad, 1));
            Check.argument("MACRO's number", () -> x.map(0, 0, GhostKeys.MACRO, bad, 0));
            Check.argument("HELD's layer", () -> x.map(0, 0, GhostKeys.HELD, bad, 0));
            Check.argument("LOCK's layer", () -> x.map(0, 0, GhostKeys.LOCK, bad, 0));
            Check.argument("ARMED's layer", () -> x.map(0, 0, GhostKeys.ARMED, bad, 0));
            Check.argument("TAP's layer", () -> x.map(0, 0, GhostKeys.TAP, 20, bad));
        }
        for (int bad : new int[] {-1, 24, Integer.MIN_VALUE, Integer.MAX_VALUE}) {
            Check.index("map's key", () -> x.map(0, bad, 1, 20, 0));
            Check.index("map's key, all wrong", () -> x.map(0, bad, 1, 0, 0));
            Check.index("top", () -> x.top(bad));
        }
        for (int bad : new int[] {-1, 7, Integer.MIN_VALUE, Integer.MAX_VALUE}) {
            Check.argument("map's kind", () -> x.map(0, 0, bad, 20, 1));
        }
        for (int bad : new int[] {-1, 1, 3, 108, Integer.MIN_VALUE, Integer.MAX_VALUE}) {
            Check.argument("CODE's code", () -> x.map(0, 0, GhostKeys.CODE, bad, 0));
            Check.argument("TAP's code", () -> x.map(0, 0, GhostKeys.TAP, bad, 1));
            Check.argument("macro's code", () -> x.macro(0, 0, bad));
        }
        Check.argument("CODE 0", () -> x.map(0, 0, GhostKeys.CODE, 0, 0));
        for (int kind : new int[] {GhostKeys.HELD, GhostKeys.LOCK, GhostKeys.ARMED}) {
            Check.argument("layer 0 of " + kind, () -> x.map(0, 0, kind, 0, 1));
        }
        Check.argument("TAP's layer 0", () -> x.map(0, 0, GhostKeys.TAP, 20, 0));
        Check.due("nothing is mapped by it", x.top(0), -1);
    }

    private static void unusedNumbersAreFree() {
        GhostKeys x = new GhostKeys();
        x.map(0, 0, GhostKeys.CODE, 4, -7);
        x.map(0, 1, GhostKeys.CODE, 107, 99);
        x.map(0, 2, GhostKeys.HELD, 3, -7);
        x.map(0, 3, GhostKeys.MACRO, 3, 1000);
        x.map(0, 4, GhostKeys.NOTHING, -7, 1000);
        x.map(0, 5, GhostKeys.TAP, 107, 3);
        for (int key = 0; key < 6; key++) {
            Check.due("mapped " + key, x.top(key), key == 4 ? -1 : 0);
        }
        x.macro(3, 3, 107);
        x.macro(0, 0, 4);
        x.macro(0, 0, 0);
    }

    private static void mapHoldsFromNowOn() {
        GhostKeys x = new GhostKeys();
        Check.due("of NOTHING", Check.press(x, 0), 1);
        Check.due("nothing comes", x.waiting(), 0);
        x.map(0, 0, GhostKeys.CODE, 20, 0);
        x.scans(10);
        Check.due("a press that was taken is not taken again", x.waiting(), 0);
        Check.release(x, 0);
        Check.press(x, 0);
        Check.report("20", x, 0, 20);
        Check.release(x, 0);
        x.map(0, 0, GhostKeys.NOTHING, 0, 0);
        Check.drain(x);
        Check.press(x, 0);
        Check.due("NOTHING again", x.waiting(), 0);
        Check.due("and no layer", x.top(0), -1);
    }

    private static void releaseEndsWhatThePressBegan() {
        GhostKeys x = new GhostKeys();
        x.map(0, 0, GhostKeys.CODE, 20, 0);
        x.map(0, 1, GhostKeys.HELD, 1, 0);
        Check.press(x, 0, 1);
        Check.report("20", x, 0, 20);
        x.map(0, 0, GhostKeys.CODE, 21, 0);
        x.map(0, 1, GhostKeys.HELD, 2, 0);
        x.map(1, 0, GhostKeys.CODE, 22, 0);
        Check.release(x, 0, 1);
        Check.report("20 is let go", x, 0);
        Check.due("layer 1 is let go", x.on(1), false);
        Check.due("layer 2 was never on", x.on(2), false);
    }

    private static void highestLayerThatIsOn() {
        GhostKeys x = new GhostKeys();
        x.map(0, 0, GhostKeys.CODE, 20, 0);
        x.map(1, 0, GhostKeys.CODE, 21, 0);
        x.map(3, 0, GhostKeys.CODE, 23, 0);
        x.map(0, 12, GhostKeys.LOCK, 1, 0);
        x.map(0, 13, GhostKeys.LOCK, 2, 0);
        x.map(0, 14, GhostKeys.LOCK, 3, 0);
        Check.due("layer 0", x.top(0), 0);
        Check.tap(x, 13);
        Check.due("layer 2 has nothing", x.top(0), 0);
        Check.tap(x, 12);
        Check.due("layer 1 below layer 2", x.top(0), 1);
        Check.tap(x, 14);
        Check.due("layer 3", x.top(0), 3);
        Check.press(x, 0);
        Check.report("of layer 3", x, 0, 23);
        Check.tap(x, 14);
        Check.tap(x, 12);
        Check.tap(x, 13);
        Check.due("all off", x.top(0), 0);
        Check.due("of an upper layer alone", x.top(1), -1);
        x.map(1, 1, GhostKeys.CODE, 30, 0);
        Check.due("a layer that is off", x.top(1), -1);
    }

    private static void held() {
        GhostKeys x = new GhostKeys();
        Check.codes(x, 20);
        x.map(0, 1, GhostKeys.HELD, 2, 0);
        x.map(2, 0, GhostKeys.CODE, 50, 0);
        // What the holding key has in the layer it holds must not trouble its release.
        x.map(2, 1, GhostKeys.CODE, 51, 0);
        Check.press(x, 1);
        Check.due("held", x.on(2), true);
        Check.due("others are not", x.on(1) || x.on(3), false);
        Check.press(x, 0);
        Check.report("of layer 2", x, 0, 50);
        Check.release(x, 1);
        Check.due("held no longer", x.on(2), false);
        Check.due("50 is still down", x.waiting(), 0);
        Check.release(x, 0);
        Check.report("50 is let go", x, 0);
    }

    private static void heldByTwoKeys() {
        for (int first = 0; first < 2; first++) {
            GhostKeys x = new GhostKeys();
            x.map(0, 0, GhostKeys.HELD, 1, 0);
            x.map(0, 1, GhostKeys.HELD, 1, 0);
            Check.press(x, 0, 1);
            Check.release(x, first);
            Check.due("the other holds it", x.on(1), true);
            Check.release(x, 1 - first);
            Check.due("none holds it", x.on(1), false);
        }
    }

    private static void lock() {
        GhostKeys x = new GhostKeys();
        x.map(0, 0, GhostKeys.LOCK, 3, 0);
        Check.press(x, 0);
        Check.due("locked by the press", x.on(3), true);
        Check.release(x, 0);
        Check.due("locked on", x.on(3), true);
        Check.press(x, 0);
        Check.due("locked no longer", x.on(3), false);
        Check.release(x, 0);
        Check.due("nor by the release", x.on(3), false);
    }

    private static void armed() {
        GhostKeys x = new GhostKeys();
        Check.codes(x, 20);
        x.map(1, 0, GhostKeys.CODE, 50, 0);
        x.map(0, 1, GhostKeys.ARMED, 1, 0);
        Check.tap(x, 1);
        Check.due("armed", x.on(1), true);
        x.scans(100);
        Check.due("for any time", x.on(1), true);
        Check.press(x, 0);
        Check.report("of layer 1", x, 0, 50);
        Check.due("armed no longer", x.on(1), false);
        Check.release(x, 0);
        Check.drain(x);
        Check.press(x, 0);
        Check.report("of layer 0", x, 0, 20);
    }

    private static void armedByOneAndAnother() {
        GhostKeys x = new GhostKeys();
        Check.codes(x, 20);
        x.map(0, 1, GhostKeys.ARMED, 1, 0);
        x.map(0, 2, GhostKeys.ARMED, 2, 0);
        Check.tap(x, 1);
        Check.tap(x, 2);
        Check.tap(x, 2);
        Check.due("1 is armed", x.on(1), true);
        Check.due("2 is armed, not turned off", x.on(2), true);
        Check.press(x, 0);
        Check.due("1 no longer", x.on(1), false);
        Check.due("2 no longer", x.on(2), false);
    }

    private static void armedEndsWithAnyPress() {
        int[][] actions = {
            {GhostKeys.NOTHING, 0, 0}, {GhostKeys.CODE, 20, 0}, {GhostKeys.HELD, 2, 0},
            {GhostKeys.LOCK, 2, 0}, {GhostKeys.MACRO, 0, 0}, {GhostKeys.TAP, 20, 2},
        };
        for (int[] action : actions) {
            GhostKeys x = new GhostKeys();
            x.map(0, 1, GhostKeys.ARMED, 1, 0);
            x.map(0, 0, action[0], action[1], action[2]);
            Check.tap(x, 1);
            Check.due("armed", x.on(1), true);
            Check.press(x, 0);
            Check.due("by kind " + action[0], x.on(1), action[0] == GhostKeys.TAP);
            x.scans(20);
            Check.due("and after a time", x.on(1), false);
        }
    }

    private static void lockedAndArmed() {
        GhostKeys x = new GhostKeys();
        x.map(0, 0, GhostKeys.LOCK, 1, 0);
        x.map(0, 1, GhostKeys.ARMED, 1, 0);
        x.map(0, 2, GhostKeys.HELD, 1, 0);
        Check.tap(x, 0);
        Check.tap(x, 1);
        Check.press(x, 2);
        Check.due("locked, held", x.on(1), true);
        Check.release(x, 2);
        Check.due("locked", x.on(1), true);
        Check.tap(x, 1);
        Check.tap(x, 0);
        Check.due("neither: the lock's press ended the arming, too", x.on(1), false);
    }

    private static void macro() {
        GhostKeys x = new GhostKeys();
        x.map(0, 0, GhostKeys.MACRO, 2, 0);
        Check.tap(x, 0);
        Check.due("an empty macro", x.waiting(), 0);
        x.macro(2, 0, 40);
        x.macro(2, 1, 101);
        x.macro(2, 3, 39);
        x.macro(1, 2, 60);
        Check.press(x, 0);
        Check.due("three codes", x.waiting(), 6);
        Check.report("first", x, 0, 40);
        Check.report("let go", x, 0);
        Check.report("second", x, 2);
        Check.report("let go", x, 0);
        Check.report("the last place", x, 0, 39);
        Check.report("let go", x, 0);
        Check.release(x, 0);
        Check.due("nothing by the release", x.waiting(), 0);
        x.macro(2, 0, 0);
        x.macro(2, 1, 41);
        Check.press(x, 0);
        Check.report("from now on", x, 0, 41);
        Check.report("let go", x, 0);
        Check.report("the last place", x, 0, 39);
        Check.report("let go", x, 0);
        Check.due("no more", x.poll(), false);
    }

    private static void macroOfAHeldCode() {
        GhostKeys x = new GhostKeys();
        Check.codes(x, 20);
        x.map(0, 1, GhostKeys.MACRO, 0, 0);
        x.macro(0, 0, 20);
        x.macro(0, 1, 21);
        Check.press(x, 0);
        Check.drain(x);
        Check.press(x, 1);
        Check.report("20 stays down", x, 0, 20, 21);
        Check.report("21 is let go", x, 0, 20);
        Check.due("no more", x.waiting(), 0);
    }
}
