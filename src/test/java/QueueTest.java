/** Promises 12 and 16: chords, the queue, and the time after which a press is decided. */
public final class QueueTest {
    public static void main(String[] args) {
        chordWrongInputs();
        chordKeepsItsOwnKeys();
        chordAtOnce();
        chordInAnyOrder();
        chordWaitsNineScans();
        chordAcrossNineScans();
        chordCutShortByARelease();
        chordReleases();
        chordOfMostKeys();
        chordThenOthers();
        chordBehindAnotherKey();
        chordRedefined();
        chordEndsArming();
        chordBehindATap();
        tapByItsRelease();
        heldByTheOther();
        heldByTime();
        olderReleasesDoNotTell();
        heldByTooManyEvents();
        eventsBehindWait();
        tapInAChord();
        Check.end();
    }

    private static void chordWrongInputs() {
        GhostKeys x = new GhostKeys();
        for (int bad : new int[] {-1, 4, Integer.MIN_VALUE, Integer.MAX_VALUE}) {
            Check.index("chord", () -> x.chord(bad, 3, 20));
            Check.index("chord, all wrong", () -> x.chord(bad, 1, 0));
            Check.index("chord, none", () -> x.chord(bad, 0, 0));
        }
        x.chord(1, 3, 20);
        int[] wrongKeys = {1, 1 << 23, 31, 0xffffff, 1 << 24, 1 << 24 | 3, Integer.MIN_VALUE, -1,
            Integer.MIN_VALUE | 3, 1 << 24 | 1 << 25};
        for (int keys : wrongKeys) {
            Check.argument("chord of " + keys, () -> x.chord(0, keys, 20));
        }
        for (int code : new int[] {-1, 0, 3, 108, Integer.MIN_VALUE, Integer.MAX_VALUE}) {
            Check.argument("chord's code " + code, () -> x.chord(0, 5, code));
            Check.argument("before the state", () -> x.chord(0, 3, code));
            x.chord(0, 0, code);
        }
        Check.state("just these keys", () -> x.chord(0, 3, 21));
        Check.state("just these keys", () -> x.chord(3, 3, 20));
        x.chord(0, 7, 4);
        x.chord(2, 15, 107);
        x.chord(3, 0xf00000, 107);
    }

    private static void chordKeepsItsOwnKeys() {
        GhostKeys x = new GhostKeys();
        x.chord(1, 3, 20);
        x.chord(1, 3, 21);
        Check.state("taken", () -> x.chord(0, 3, 22));
        Check.press(x, 0, 1);
        Check.report("the new code; what threw changed nothing", x, 0, 21);
        Check.release(x, 0, 1);
        x.chord(1, 0, 0);
        x.chord(0, 3, 22);
        Check.drain(x);
        Check.press(x, 0, 1);
        Check.report("the keys are free again", x, 0, 22);
        x.chord(2, 0, 0);
        x.chord(3, 0, 0);
    }

    private static GhostKeys twoCodesAndAChord() {
        GhostKeys x = new GhostKeys();
        Check.codes(x, 20, 21, 22, 23, 24, 25);
        x.chord(0, 3, 60);
        return x;
    }

    private static void chordAtOnce() {
        GhostKeys x = twoCodesAndAChord();
        Check.press(x, 0, 1);
        Check.due("taken at once", x.queued(), 0);
        Check.report("60", x, 0, 60);
        Check.due("that is all", x.waiting(), 0);
    }

    private static void chordInAnyOrder() {
        GhostKeys x = twoCodesAndAChord();
        Check.press(x, 1);
        Check.due("1 waits", x.queued(), 1);
        Check.due("nothing yet", x.waiting(), 0);
        x.wire(0, true);
        Check.due("no press yet", x.scans(4), 0);
        Check.due("the press", x.scan(), 1);
        Check.due("both taken", x.queued(), 0);
        Check.report("60", x, 0, 60);
        Check.press(x, 2);
        Check.report("a key of no chord", x, 0, 22, 60);
    }

    private static void chordWaitsNineScans() {
        GhostKeys x = twoCodesAndAChord();
        Check.press(x, 0);
        x.scans(8);
        Check.due("waits through s + 8", x.queued(), 1);
        Check.due("nothing yet", x.waiting(), 0);
        x.scan();
        Check.due("taken in s + 9", x.queued(), 0);
        Check.report("by its action", x, 0, 20);
    }

    /** Presses key 0, and key 1 so many scans later; which code comes first. */
    private static int codeWithGap(int gap) {
        GhostKeys x = twoCodesAndAChord();
        x.wire(0, true);
        x.scans(gap);
        x.wire(1, true);
        x.scans(20);
        x.poll();
        return x.report(1);
    }

    private static void chordAcrossNineScans() {
        Check.due("the same scan but one", codeWithGap(1), 60);
        Check.due("s + 8", codeWithGap(8), 60);
        Check.due("s + 9", codeWithGap(9), 60);
        Check.due("s + 10", codeWithGap(10), 20);
    }

    private static void chordCutShortByARelease() {
        GhostKeys x = twoCodesAndAChord();
        Check.press(x, 0);
        Check.due("waits", x.queued(), 1);
        Check.release(x, 0);
        Check.due("its release decides", x.queued(), 0);
        Check.report("down", x, 0, 20);
        Check.report("up", x, 0);
        GhostKeys y = twoCodesAndAChord();
        Check.press(y, 1);
        y.scans(9);
        Check.report("1 by its action", y, 0, 21);
        Check.press(y, 0);
        Check.due("0 waits", y.queued(), 1);
        Check.release(y, 1);
        Check.due("the release of 1 decides", y.queued(), 0);
        Check.report("0 by its action, not the chord", y, 0, 20, 21);
        Check.report("1 is let go", y, 0, 20);
    }

    private static void chordReleases() {
        for (int first = 0; first < 2; first++) {
            GhostKeys x = twoCodesAndAChord();
            Check.press(x, 0, 1);
            Check.drain(x);
            Check.release(x, first);
            Check.report("the first release lets go", x, 0);
            // The key that is still down must not be touched by a new press of the other one.
            Check.press(x, first);
            x.scans(9);
            Check.report("alone by its action", x, 0, 20 + first);
            Check.release(x, 1 - first);
            Check.due("the other release does nothing", x.waiting(), 0);
            Check.release(x, first);
            Check.report("its own release does", x, 0);
            Check.press(x, 0, 1);
            Check.report("the chord anew", x, 0, 60);
            Check.release(x, 0, 1);
            Check.report("and let go", x, 0);
        }
    }

    private static void chordOfMostKeys() {
        GhostKeys x = twoCodesAndAChord();
        x.chord(1, 7, 61);
        x.chord(3, 15, 62);
        Check.press(x, 0, 1);
        Check.due("a longer one may come", x.queued(), 2);
        Check.press(x, 2);
        Check.due("and a longer one", x.queued(), 3);
        x.scans(3);
        Check.due("not for ever: s + 8", x.queued(), 3);
        x.scan();
        Check.due("s + 9", x.queued(), 0);
        Check.report("the three", x, 0, 61);
        Check.release(x, 0, 1, 2);
        Check.drain(x);
        Check.press(x, 0, 1, 2, 3);
        Check.due("all four at once", x.queued(), 0);
        Check.report("the four", x, 0, 62);
        GhostKeys y = new GhostKeys();
        y.chord(0, 7, 61);
        y.chord(1, 3, 60);
        Check.press(y, 0, 1, 2);
        Check.report("the three, whatever their number", y, 0, 61);
        Check.due("that is all", y.waiting(), 0);
    }

    private static void chordThenOthers() {
        GhostKeys x = twoCodesAndAChord();
        Check.press(x, 0, 1, 4);
        Check.due("the rest is taken, too", x.queued(), 0);
        Check.report("the chord", x, 0, 60);
        Check.report("the other", x, 0, 24, 60);
        GhostKeys y = twoCodesAndAChord();
        y.chord(1, 0b1011, 61);
        Check.press(y, 0, 1, 2);
        Check.due("a row that no chord has all of does not wait", y.queued(), 0);
        Check.report("the first two", y, 0, 60);
        Check.report("the third", y, 0, 22, 60);
    }

    private static void chordBehindAnotherKey() {
        GhostKeys x = new GhostKeys();
        Check.codes(x, 20, 21, 22, 23);
        x.chord(2, 0b110, 60);
        Check.press(x, 0, 1, 2);
        Check.due("none waits", x.queued(), 0);
        Check.report("0 by itself", x, 0, 20);
        Check.report("then the chord", x, 0, 20, 60);
        GhostKeys y = new GhostKeys();
        Check.codes(y, 20, 21, 22, 23);
        y.chord(2, 0b101, 60);
        Check.press(y, 0, 1, 2);
        y.scans(20);
        Check.report("not the first two: 0", y, 0, 20);
        Check.report("1", y, 0, 20, 21);
        Check.report("2", y, 0, 20, 21, 22);
    }

    private static void chordRedefined() {
        GhostKeys x = twoCodesAndAChord();
        Check.press(x, 0, 1);
        Check.report("60", x, 0, 60);
        x.chord(0, 3, 61);
        Check.release(x, 0);
        Check.report("60 is let go", x, 0);
        Check.release(x, 1);
        Check.due("nothing else", x.waiting(), 0);
        Check.press(x, 0);
        Check.due("waits", x.queued(), 1);
        x.chord(0, 0, 0);
        Check.due("waits for the next scan", x.queued(), 1);
        x.scan();
        Check.due("no chord to wait for", x.queued(), 0);
        Check.report("20", x, 0, 20);
    }

    private static void chordEndsArming() {
        GhostKeys x = twoCodesAndAChord();
        x.map(0, 12, GhostKeys.ARMED, 1, 0);
        Check.tap(x, 12);
        Check.due("armed", x.on(1), true);
        Check.press(x, 0, 1);
        Check.due("a chord's press ends it", x.on(1), false);
        // The chord's code is no action: a key of it that would arm does not.
        GhostKeys y = twoCodesAndAChord();
        y.map(0, 1, GhostKeys.ARMED, 1, 0);
        Check.press(y, 0, 1);
        Check.report("60", y, 0, 60);
        Check.due("not armed", y.on(1), false);
    }

    private static void chordBehindATap() {
        GhostKeys x = new GhostKeys();
        Check.codes(x, 20, 21, 22, 23, 24, 25);
        x.chord(0, 3, 60);
        x.map(0, 12, GhostKeys.TAP, 30, 1);
        Check.press(x, 12);
        Check.due("the tap waits", x.queued(), 1);
        Check.press(x, 0);
        Check.due("and what is behind it", x.queued(), 2);
        x.scans(15);
        Check.due("at s + 20 it is held, and 0 is over its time, too", x.queued(), 0);
        Check.due("held", x.on(1), true);
        Check.report("0 by its action", x, 0, 20);
    }

    private static GhostKeys tapAndCodes() {
        GhostKeys x = new GhostKeys();
        Check.codes(x, 20, 21, 22, 23, 24, 25);
        x.map(0, 5, GhostKeys.TAP, 30, 1);
        for (int key = 0; key < 5; key++) {
            x.map(1, key, GhostKeys.CODE, 50 + key, 0);
        }
        return x;
    }

    private static void tapByItsRelease() {
        GhostKeys x = tapAndCodes();
        Check.press(x, 5);
        Check.due("not decided", x.queued(), 1);
        x.scans(14);
        Check.release(x, 5);
        Check.due("s + 19: decided", x.queued(), 0);
        Check.report("down", x, 0, 30);
        Check.report("up", x, 0);
        Check.due("no layer", x.on(1), false);
        Check.due("no more", x.waiting(), 0);
    }

    private static void heldByTheOther() {
        GhostKeys x = tapAndCodes();
        Check.press(x, 5);
        Check.press(x, 0);
        Check.due("both wait", x.queued(), 2);
        Check.release(x, 0);
        Check.due("told", x.queued(), 0);
        Check.due("held", x.on(1), true);
        Check.report("of the layer", x, 0, 50);
        Check.report("let go", x, 0);
        Check.release(x, 5);
        Check.due("until the release", x.on(1), false);
        Check.due("no tap", x.waiting(), 0);
        GhostKeys y = tapAndCodes();
        Check.press(y, 5);
        Check.press(y, 0);
        Check.release(y, 5);
        Check.report("its own release first: a tap", y, 0, 30);
        Check.report("up", y, 0);
        Check.report("then the other, of layer 0", y, 0, 20);
    }

    private static void heldByTime() {
        GhostKeys x = tapAndCodes();
        Check.press(x, 5);
        x.scans(19);
        Check.due("s + 19", x.on(1), false);
        Check.due("waits", x.queued(), 1);
        x.scan();
        Check.due("s + 20", x.on(1), true);
        Check.due("taken", x.queued(), 0);
        Check.release(x, 5);
        Check.due("until the release", x.on(1), false);
        Check.due("no code", x.waiting(), 0);
        GhostKeys y = tapAndCodes();
        Check.press(y, 5);
        y.scans(15);
        Check.release(y, 5);
        Check.due("a release in s + 20 itself tells first", y.waiting(), 2);
    }

    private static void olderReleasesDoNotTell() {
        GhostKeys x = tapAndCodes();
        Check.press(x, 0, 1);
        Check.drain(x);
        Check.press(x, 5);
        Check.release(x, 0);
        Check.due("a release of an older press waits, too", x.queued(), 2);
        Check.due("not held", x.on(1), false);
        Check.due("not let go yet", x.waiting(), 0);
        Check.press(x, 0);
        Check.due("pressed anew behind it", x.queued(), 3);
        Check.release(x, 0);
        Check.due("and released: told", x.queued(), 0);
        Check.due("held", x.on(1), true);
        Check.report("0 is let go", x, 0, 21);
        Check.report("of the layer", x, 0, 21, 50);
        Check.report("let go", x, 0, 21);
    }

    private static void heldByTooManyEvents() {
        GhostKeys x = tapAndCodes();
        Check.press(x, 0, 1, 2, 3);
        Check.press(x, 5);
        Check.release(x, 0, 1, 2, 3);
        Check.due("five", x.queued(), 5);
        Check.press(x, 0, 1, 2);
        Check.due("eight", x.queued(), 8);
        Check.due("not held with eight", x.on(1), false);
        Check.due("the ninth", Check.press(x, 3), 1);
        Check.due("held with nine", x.on(1), true);
        Check.due("all taken", x.queued(), 0);
    }

    private static void eventsBehindWait() {
        GhostKeys x = tapAndCodes();
        x.map(0, 4, GhostKeys.TAP, 31, 2);
        Check.press(x, 5);
        Check.press(x, 4);
        Check.release(x, 5);
        Check.report("the first is a tap", x, 0, 30);
        Check.report("up", x, 0);
        Check.due("the second and the release of the first wait", x.queued(), 2);
        Check.due("history knows them", x.history(0), 10);
        Check.release(x, 4);
        Check.report("the second is one, too", x, 0, 31);
        Check.report("up", x, 0);
        Check.due("none is left", x.queued(), 0);
    }

    private static void tapInAChord() {
        GhostKeys x = tapAndCodes();
        x.chord(0, 0b110000, 60);
        Check.press(x, 4, 5);
        Check.report("the chord comes first", x, 0, 60);
        Check.release(x, 4, 5);
        Check.drain(x);
        Check.press(x, 5);
        x.scans(19);
        Check.due("then it waits as a tap", x.queued(), 1);
        x.scan();
        Check.due("held", x.on(1), true);
        GhostKeys y = tapAndCodes();
        y.chord(0, 0b100001, 60);
        Check.press(y, 5);
        y.scans(5);
        Check.press(y, 0);
        Check.due("s + 10 is too late for the chord, so the tap waits", y.queued(), 2);
        Check.release(y, 0);
        Check.report("held by the other", y, 0, 50);
    }
}
