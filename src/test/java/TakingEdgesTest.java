/** Each boundary that the document names for layers, chords, taps and the queue: just inside it and just outside. */
public final class TakingEdgesTest {
    public static void main(String[] args) {
        eachLayerForEachReason();
        eachReasonEndsAlone();
        topOfEverySetOfLayers();
        layerHeldByEachKey();
        layerHeldByTwoKeys();
        releasesBringOnlyTheirOwnEnd();
        firstReleaseOfAChord();
        chordPressedAnewBeforeItsLastRelease();
        rowUpToNineScans();
        rowUpToNineScansOfItsFirst();
        rowEndsAtARelease();
        releaseIsNoPressOfTheRow();
        waitingBelowNineScans();
        waitingForAThirdKey();
        waitingOnlyForOthers();
        waitingOnlyIfTheRowIsAllOfTheQueue();
        chordsOfTwoToFourKeys();
        keysBehindAChord();
        chordOfLessKeysWhenTheTimeIsOver();
        firstAndLastChord();
        chordGoesAheadOfActions();
        tapAndHeldAtTwentyScans();
        releaseInTheTwentiethScan();
        eightAndNineEvents();
        manyEventsInOneScan();
        sixteenEventsInTheQueue();
        ninthEventMayBeTheRelease();
        firstReleaseTells();
        anyPressBehindTells();
        releaseOfAnOlderPressDoesNotTell();
        tapsReleaseDoesNothing();
        secondTapWaitsByItsOwnTime();
        actionAtTheTimeOfTaking();
        emptyAndFullMacros();
        firstAndLastMacro();
        armedUntilTheNextPress();
        armedLayerIsOnWhileAPressIsTaken();
        armedPressKeepsArming();
        lockIsTurnedEachTime();
        fiveHundredCalls();
        Check.end();
    }

    /** "LAYERS 0 .. 3: layer 0 is on; another one if it is LOCKED, HELD by some key, or ARMED." */
    private static void eachLayerForEachReason() {
        for (int kind : new int[] {GhostKeys.HELD, GhostKeys.LOCK, GhostKeys.ARMED}) {
            for (int layer = 1; layer <= 3; layer++) {
                GhostKeys x = new GhostKeys();
                x.map(0, 9, kind, layer, 0);
                Check.press(x, 9);
                for (int other = 0; other <= 3; other++) {
                    Check.due("kind " + kind + " of " + layer + ": on " + other, x.on(other),
                            other == 0 || other == layer);
                }
                Check.release(x, 9);
                Check.due("kind " + kind + ", released", x.on(layer), kind != GhostKeys.HELD);
            }
        }
        for (int layer = 1; layer <= 3; layer++) {
            GhostKeys x = new GhostKeys();
            x.map(0, 9, GhostKeys.TAP, 20, layer);
            Check.press(x, 9);
            x.scans(20);
            for (int other = 0; other <= 3; other++) {
                Check.due("TAP of " + layer + ": on " + other, x.on(other), other == 0 || other == layer);
            }
        }
    }

    private static final int LOCK_KEY = 0;
    private static final int HELD_KEY = 1;
    private static final int ARMED_KEY = 2;
    private static final int CODE_KEY = 3;

    private static GhostKeys allForLayerOne() {
        GhostKeys x = new GhostKeys();
        x.map(0, LOCK_KEY, GhostKeys.LOCK, 1, 0);
        x.map(0, HELD_KEY, GhostKeys.HELD, 1, 0);
        x.map(0, ARMED_KEY, GhostKeys.ARMED, 1, 0);
        x.map(0, CODE_KEY, GhostKeys.CODE, 20, 0);
        return x;
    }

    private static void eachReasonEndsAlone() {
        GhostKeys x = allForLayerOne();
        Check.press(x, HELD_KEY);
        Check.tap(x, ARMED_KEY);
        Check.release(x, HELD_KEY);
        Check.due("armed, held no longer", x.on(1), true);
        Check.tap(x, CODE_KEY);
        Check.due("neither armed nor held", x.on(1), false);
        Check.tap(x, LOCK_KEY);
        Check.press(x, HELD_KEY);
        Check.tap(x, LOCK_KEY);
        Check.due("held, locked no longer", x.on(1), true);
        Check.release(x, HELD_KEY);
        Check.due("neither held nor locked", x.on(1), false);
        Check.tap(x, LOCK_KEY);
        Check.tap(x, ARMED_KEY);
        Check.tap(x, CODE_KEY);
        Check.due("locked, armed no longer", x.on(1), true);
        Check.tap(x, LOCK_KEY);
        Check.due("neither locked nor armed", x.on(1), false);
    }

    /** "the highest layer that is on in which it is not NOTHING, otherwise NOTHING"; and promise 14. */
    private static void topOfEverySetOfLayers() {
        for (int on = 1; on < 16; on += 2) {
            for (int mapped = 0; mapped < 16; mapped++) {
                GhostKeys x = new GhostKeys();
                for (int layer = 0; layer <= 3; layer++) {
                    x.map(0, 12 + layer, layer == 0 ? GhostKeys.NOTHING : GhostKeys.LOCK, layer, 0);
                    x.map(layer, 0, (mapped >> layer & 1) != 0 ? GhostKeys.CODE : GhostKeys.NOTHING, 20 + layer, 0);
                }
                for (int layer = 1; layer <= 3; layer++) {
                    if ((on >> layer & 1) != 0) {
                        Check.tap(x, 12 + layer);
                    }
                }
                int top = 31 - Integer.numberOfLeadingZeros(on & mapped);
                Check.due("on " + on + ", mapped " + mapped, x.top(0), top);
                Check.press(x, 0);
                x.poll();
                Check.due("its code", x.report(1), top < 0 ? 0 : 20 + top);
            }
        }
    }

    /** "HELD by some key": the first key and the last are one. */
    private static void layerHeldByEachKey() {
        for (int key = 0; key < 24; key++) {
            GhostKeys x = new GhostKeys();
            x.map(0, key, GhostKeys.HELD, 3, 0);
            Check.press(x, key);
            Check.due("held by " + key, x.on(3), true);
            Check.release(x, key);
            Check.due("no longer held by " + key, x.on(3), false);
        }
    }

    private static void layerHeldByTwoKeys() {
        for (int first = 0; first < 2; first++) {
            for (int let = 0; let < 2; let++) {
                GhostKeys x = allForLayerOne();
                x.map(0, 5, GhostKeys.TAP, 30, 1);
                int[] keys = {HELD_KEY, 5};
                Check.press(x, keys[first]);
                x.scans(20);
                Check.press(x, keys[1 - first]);
                x.scans(20);
                Check.release(x, keys[let]);
                Check.due("the other key holds it", x.on(1), true);
                Check.release(x, keys[1 - let]);
                Check.due("no key holds it", x.on(1), false);
            }
        }
    }

    /** "TAKING a RELEASE ends what its press began", and nothing that another press began. */
    private static void releasesBringOnlyTheirOwnEnd() {
        GhostKeys x = allForLayerOne();
        x.map(0, 4, GhostKeys.HELD, 2, 0);
        x.map(0, 5, GhostKeys.NOTHING, 0, 0);
        Check.press(x, CODE_KEY);
        Check.press(x, HELD_KEY);
        Check.press(x, 4);
        Check.report("20", x, 0, 20);
        Check.tap(x, 5);
        Check.due("by a release of nothing nothing ends", x.waiting(), 0);
        Check.release(x, HELD_KEY);
        Check.due("1 ends", x.on(1), false);
        Check.due("2 does not", x.on(2), true);
        Check.due("the code does not", x.waiting(), 0);
        Check.release(x, CODE_KEY);
        Check.report("the code ends", x, 0);
        Check.due("2 does not", x.on(2), true);
        Check.release(x, 4);
        Check.due("2 ends", x.on(2), false);
    }

    /** "of a CHORD the first release lets its code go, the others do nothing". */
    private static void firstReleaseOfAChord() {
        for (int many = 2; many <= 4; many++) {
            for (int first = 0; first < many; first++) {
                GhostKeys x = new GhostKeys();
                x.chord(0, (1 << many) - 1, 60);
                for (int key = 0; key < many; key++) {
                    x.wire(key, true);
                }
                x.scans(5);
                Check.report("down", x, 0, 60);
                for (int i = 0; i < many; i++) {
                    Check.release(x, (first + i) % many);
                    Check.due(many + " keys: release " + i, x.waiting(), i == 0 ? 1 : 0);
                    Check.due("poll", x.poll(), i == 0);
                    Check.due("no code", x.report(1), 0);
                }
            }
        }
    }

    private static void chordPressedAnewBeforeItsLastRelease() {
        GhostKeys x = new GhostKeys();
        x.chord(0, 0b111, 60);
        x.chord(1, 0b011, 61);
        Check.press(x, 0, 1, 2);
        Check.release(x, 0, 1);
        Check.drain(x);
        Check.press(x, 0, 1);
        x.scans(9);
        Check.report("another chord of its keys", x, 0, 61);
        Check.release(x, 2);
        Check.due("the first chord's last release does nothing to it", x.waiting(), 0);
        Check.release(x, 1);
        Check.report("its own first does", x, 0);
        Check.release(x, 0);
        Check.due("its own last does not", x.waiting(), 0);
    }

    private static GhostKeys codesAndChord() {
        GhostKeys x = new GhostKeys();
        Check.codes(x, 20, 21, 22, 23, 24, 25);
        x.chord(0, 0b11, 60);
        return x;
    }

    /** "as long as they are presses of scans up to s + 9": a tap in front lets the row be looked at later. */
    private static void rowUpToNineScans() {
        for (int gap = 0; gap <= 12; gap++) {
            GhostKeys x = codesAndChord();
            x.map(0, 5, GhostKeys.TAP, 30, 1);
            x.wire(5, true);
            x.scan();
            x.wire(0, true);
            if (gap > 0) {
                x.scans(gap);
            }
            x.wire(1, true);
            x.scans(23 - gap);
            Check.due("all wait for the tap", x.queued(), 3);
            x.scans(10);
            Check.due("all are taken", x.queued(), 0);
            if (gap <= 9) {
                Check.report("a press in s + " + gap + " is of the row", x, 0, 60);
            } else {
                Check.report("a press in s + " + gap + " is not", x, 0, 20);
                Check.report("so it comes alone", x, 0, 20, 21);
            }
            Check.due("no more", x.waiting(), 0);
        }
    }

    /** s is the scan of the row's first press, not of the one in front of each. */
    private static void rowUpToNineScansOfItsFirst() {
        for (int gap = 4; gap <= 5; gap++) {
            GhostKeys x = codesAndChord();
            x.chord(0, 0b111, 60);
            x.map(0, 5, GhostKeys.TAP, 30, 1);
            x.wire(5, true);
            x.scan();
            for (int key = 0; key <= 2; key++) {
                x.wire(key, true);
                x.scans(key == 0 ? 5 : gap);
            }
            x.scans(30);
            Check.report("the third press in s + " + (5 + gap), x, 0, gap == 4 ? 60 : 20);
        }
    }

    /** "the events directly behind it, as long as they are presses". */
    private static void rowEndsAtARelease() {
        GhostKeys x = codesAndChord();
        x.map(0, 5, GhostKeys.TAP, 30, 1);
        Check.press(x, 2);
        Check.report("an older press", x, 0, 22);
        Check.press(x, 5);
        Check.press(x, 0);
        x.wire(2, false);
        x.scan();
        x.wire(1, true);
        x.scans(5);
        Check.due("tap, press, release, press", x.queued(), 4);
        x.scans(10);
        Check.report("no chord over a release", x, 0, 20, 22);
        Check.report("the release", x, 0, 20);
        Check.report("the other press", x, 0, 20, 21);
    }

    private static void releaseIsNoPressOfTheRow() {
        GhostKeys x = codesAndChord();
        Check.press(x, 1);
        x.scans(9);
        Check.report("1 alone", x, 0, 21);
        Check.press(x, 0);
        Check.due("0 waits", x.queued(), 1);
        Check.release(x, 1);
        Check.report("0 by its action", x, 0, 20, 21);
        Check.report("1 is let go", x, 0, 20);
        Check.due("no chord", x.waiting(), 0);
    }

    /** "NOW is below s + 9". */
    private static void waitingBelowNineScans() {
        GhostKeys x = codesAndChord();
        Check.press(x, 0);
        for (int later = 1; later <= 11; later++) {
            x.scan();
            Check.due("s + " + later + ": queued", x.queued(), later < 9 ? 1 : 0);
            Check.due("s + " + later + ": waiting", x.waiting(), later < 9 ? 0 : 1);
        }
        for (int gap = 1; gap <= 12; gap++) {
            GhostKeys y = codesAndChord();
            y.wire(0, true);
            y.scans(gap);
            y.wire(1, true);
            y.scans(20);
            y.poll();
            Check.due("the other key in s + " + gap, y.report(1), gap <= 9 ? 60 : 20);
        }
    }

    /** A press behind one whose time was over waits by its own scan. */
    private static void waitingForAThirdKey() {
        GhostKeys x = new GhostKeys();
        Check.codes(x, 20, 21, 22);
        x.chord(3, 0b111, 60);
        x.wire(0, true);
        x.scans(8);
        x.wire(1, true);
        x.scans(5);
        Check.due("s + 8: both wait", x.queued(), 2);
        x.scan();
        Check.due("s + 9: the first is taken", x.queued(), 1);
        Check.report("by its action", x, 0, 20);
        x.scans(7);
        Check.due("the second's s + 8", x.queued(), 1);
        x.scan();
        Check.due("the second's s + 9", x.queued(), 0);
        Check.report("by its action", x, 0, 20, 21);
    }

    /** "some chord has all keys of the ROW, and others". */
    private static void waitingOnlyForOthers() {
        GhostKeys x = codesAndChord();
        Check.press(x, 0, 1);
        Check.due("all keys of it, and no others: taken at once", x.queued(), 0);
        GhostKeys y = codesAndChord();
        y.chord(1, 0b111, 61);
        Check.press(y, 0, 1);
        Check.due("all keys of a larger one: not decided", y.queued(), 2);
        GhostKeys z = codesAndChord();
        Check.press(z, 0, 2);
        Check.due("not all keys of it: taken at once", z.queued(), 0);
        Check.report("by the actions: 0", z, 0, 20);
        Check.report("by the actions: 2", z, 0, 20, 22);
        GhostKeys none = codesAndChord();
        none.chord(0, 0, 0);
        Check.press(none, 0);
        Check.due("there is no chord: taken at once", none.queued(), 0);
        GhostKeys other = codesAndChord();
        Check.press(other, 2);
        Check.due("a key of no chord: taken at once", other.queued(), 0);
    }

    /** "if its ROW is all of the QUEUE": a release behind it decides. */
    private static void waitingOnlyIfTheRowIsAllOfTheQueue() {
        GhostKeys x = codesAndChord();
        Check.press(x, 4);
        x.wire(0, true);
        x.scan();
        x.wire(4, false);
        x.scans(4);
        Check.due("0 waits", x.queued(), 1);
        x.scan();
        Check.due("the release of 4 decides", x.queued(), 0);
        x.poll();
        Check.report("0 by its action", x, 0, 20, 24);
        Check.report("4 is let go", x, 0, 20);
    }

    /** "keys has one, or more than 4 bits set": chords of 2, 3 and 4 keys are whole at their last key. */
    private static void chordsOfTwoToFourKeys() {
        int[][] sets = {{0, 23}, {0, 5}, {2, 8, 14}, {0, 7, 23}, {0, 1, 2, 3}, {20, 21, 22, 23}, {5, 6, 13, 20}};
        for (int[] keys : sets) {
            GhostKeys x = new GhostKeys();
            int mask = 0;
            for (int key : keys) {
                mask |= 1 << key;
            }
            x.chord(2, mask, 107);
            for (int i = keys.length - 1; i >= 0; i--) {
                x.wire(keys[i], true);
                x.scan();
            }
            x.scans(3);
            Check.due("one is missing", x.queued(), keys.length - 1);
            x.scan();
            Check.due("whole", x.queued(), 0);
            Check.report("its code", x, 128);
        }
    }

    /** "if for some chord with m keys these are the first m of the ROW": what is behind them comes next. */
    private static void keysBehindAChord() {
        GhostKeys x = codesAndChord();
        x.chord(1, 0b1100, 61);
        Check.press(x, 0, 1, 2, 3, 4);
        Check.due("none waits", x.queued(), 0);
        Check.report("a chord", x, 0, 60);
        Check.report("another chord behind it", x, 0, 60, 61);
        Check.report("a key behind both", x, 0, 24, 60, 61);
        GhostKeys y = codesAndChord();
        y.chord(0, 0b110, 60);
        Check.press(y, 0, 1, 2);
        Check.report("a key in front", y, 0, 20);
        Check.report("then the chord", y, 0, 20, 60);
        GhostKeys z = codesAndChord();
        z.chord(0, 0b101, 60);
        Check.press(z, 0, 1, 2);
        Check.report("a key between: not the first two", z, 0, 20);
        Check.report("1", z, 0, 20, 21);
        Check.due("2 may still become a chord", z.queued(), 1);
    }

    /** "of the chord with most keys". */
    private static void chordOfLessKeysWhenTheTimeIsOver() {
        for (int pressed = 2; pressed <= 4; pressed++) {
            for (int turn = 0; turn < 2; turn++) {
                GhostKeys x = new GhostKeys();
                Check.codes(x, 20, 21, 22, 23);
                for (int many = 2; many <= 4; many++) {
                    x.chord(turn == 0 ? many - 2 : 5 - many, (1 << many) - 1, 60 + many);
                }
                for (int key = 0; key < pressed; key++) {
                    x.wire(key, true);
                }
                x.scans(13);
                Check.due(pressed + " keys in s + 8", x.queued(), pressed < 4 ? pressed : 0);
                x.scan();
                Check.due(pressed + " keys in s + 9", x.queued(), 0);
                Check.report("the chord of all", x, 0, 60 + pressed);
                Check.due("that is all", x.waiting(), 0);
            }
        }
        GhostKeys y = codesAndChord();
        y.chord(1, 0b1111, 61);
        Check.press(y, 0, 1, 2);
        y.scans(9);
        Check.report("the two, for want of the fourth", y, 0, 60);
        Check.report("the third by its action", y, 0, 22, 60);
    }

    /** "Chord c (0 .. 3)". */
    private static void firstAndLastChord() {
        GhostKeys x = new GhostKeys();
        for (int c = 0; c <= 3; c++) {
            x.chord(c, 0b11 << c, 60 + c);
        }
        for (int c = 0; c <= 3; c++) {
            Check.press(x, c, c + 1);
            Check.report("chord " + c, x, 0, 60 + c);
            Check.release(x, c, c + 1);
            Check.report("let go", x, 0);
        }
        x.chord(0, 0, 0);
        x.chord(3, 0, 0);
        Check.press(x, 0, 1);
        x.scans(20);
        Check.due("chord 0 is gone", x.waiting(), 0);
        Check.release(x, 0, 1);
        Check.press(x, 1, 2);
        Check.report("chord 1 is not", x, 0, 61);
    }

    private static void chordGoesAheadOfActions() {
        for (int kind = 0; kind <= 6; kind++) {
            GhostKeys x = new GhostKeys();
            boolean asksCode = kind == GhostKeys.CODE || kind == GhostKeys.TAP;
            x.map(0, 0, kind, asksCode ? 20 : 1, 1);
            x.macro(1, 0, 21);
            x.chord(0, 0b11, 60);
            Check.press(x, 0, 1);
            Check.report("kind " + kind, x, 0, 60);
            Check.due("no more", x.waiting(), 0);
            Check.due("no layer", x.on(1), false);
            Check.release(x, 0, 1);
            Check.report("kind " + kind + ", let go", x, 0);
            Check.due("no layer", x.on(1), false);
        }
    }

    private static GhostKeys tapAndCodes() {
        GhostKeys x = new GhostKeys();
        Check.codes(x, 20, 21, 22, 23, 24);
        x.map(0, 5, GhostKeys.TAP, 30, 1);
        for (int key = 0; key < 5; key++) {
            x.map(1, key, GhostKeys.CODE, 50 + key, 0);
        }
        return x;
    }

    /** "it is held, too, if NOW is at least s + 20". */
    private static void tapAndHeldAtTwentyScans() {
        GhostKeys x = tapAndCodes();
        Check.press(x, 5);
        for (int later = 1; later <= 22; later++) {
            x.scan();
            Check.due("s + " + later + ": queued", x.queued(), later < 20 ? 1 : 0);
            Check.due("s + " + later + ": held", x.on(1), later >= 20);
        }
        Check.due("no code", x.waiting(), 0);
        Check.release(x, 5);
        Check.due("until the release", x.on(1), false);
        Check.due("nor by the release", x.waiting(), 0);
    }

    private static void releaseInTheTwentiethScan() {
        for (int later = 5; later <= 23; later++) {
            GhostKeys x = tapAndCodes();
            x.wire(5, true);
            x.scans(later);
            x.wire(5, false);
            x.scans(4);
            Check.due("before the release", x.waiting(), 0);
            Check.due("it is brought", x.scan(), 1);
            Check.due("released in s + " + later, x.waiting(), later <= 20 ? 2 : 0);
            Check.due("nothing is left", x.queued(), 0);
            Check.due("no layer is left", x.on(1), false);
        }
    }

    private static GhostKeys tapAndFiveEvents() {
        GhostKeys x = tapAndCodes();
        Check.press(x, 0, 1, 2, 3);
        Check.drain(x);
        Check.press(x, 5);
        Check.release(x, 0, 1, 2, 3);
        Check.due("a tap and four older releases", x.queued(), 5);
        return x;
    }

    /** "or the QUEUE has more than 8 events; otherwise not decided yet". */
    private static void eightAndNineEvents() {
        GhostKeys x = tapAndFiveEvents();
        Check.press(x, 0, 1);
        Check.due("seven events", x.queued(), 7);
        x.wire(2, true);
        x.scan();
        x.wire(3, true);
        x.scans(4);
        Check.due("eight events: not decided", x.queued(), 8);
        Check.due("not held", x.on(1), false);
        Check.due("the ninth", x.scan(), 1);
        Check.due("nine events: decided", x.queued(), 0);
        Check.due("held", x.on(1), true);
        GhostKeys y = tapAndFiveEvents();
        Check.press(y, 0, 1, 2);
        y.scans(9);
        Check.due("eight events in s + 19", y.queued(), 8);
        y.scan();
        Check.due("eight events in s + 20", y.queued(), 0);
        Check.due("held by its time", y.on(1), true);
    }

    private static void manyEventsInOneScan() {
        for (int more = 2; more <= 5; more++) {
            GhostKeys x = tapAndFiveEvents();
            for (int key = 0; key < more; key++) {
                x.wire(key, true);
            }
            x.scans(5);
            Check.due("five and " + more, x.queued(), more <= 3 ? 5 + more : 0);
            Check.due("held", x.on(1), more > 3);
        }
        GhostKeys y = tapAndFiveEvents();
        Check.press(y, 0, 1, 2, 3, 4);
        Check.due("events behind it", y.queued(), 0);
        y.poll();
        Check.drain(y);
        Check.due("all of them are taken, in the layer", y.report(1), 50);
        Check.due("the last one", y.report(5), 54);
    }

    /** Fifteen events of one scan behind one that waits: each finds its place in the queue. */
    private static void sixteenEventsInTheQueue() {
        int[] old = {0, 1, 2, 3, 4, 11, 17};
        int[] young = {5, 6, 7, 8, 9, 16, 22};
        GhostKeys x = new GhostKeys();
        x.map(0, 23, GhostKeys.TAP, 30, 1);
        for (int i = 0; i < 7; i++) {
            x.map(0, old[i], GhostKeys.CODE, 40 + i, 0);
            x.map(0, young[i], GhostKeys.CODE, 101 + i, 0);
        }
        Check.due("the older presses", Check.press(x, old), 7);
        Check.due("the tap's press", Check.press(x, 23), 1);
        for (int key : young) {
            x.wire(key, true);
        }
        x.wire(23, false);
        Check.due("releases and presses", Check.release(x, old), 15);
        Check.due("all are taken", x.queued(), 0);
        Check.drain(x);
        Check.due("no older code is down", x.report(1), 0);
        Check.due("all young ones are", x.report(0), 254);
        Check.due("no layer", x.on(1), false);
        int[] due = {46, 45, 34, 33, 22, 19, 17, 15, 13, 11, 8, 6, 4, 2, 0, 47, 35};
        for (int i = 0; i < due.length; i++) {
            Check.due("history " + i, x.history(i), due[i]);
        }
    }

    /** An event that tells goes before the number of events: a tap, though there are nine. */
    private static void ninthEventMayBeTheRelease() {
        GhostKeys x = tapAndFiveEvents();
        Check.press(x, 0, 1, 2);
        Check.due("eight events", x.queued(), 8);
        Check.drain(x);
        Check.release(x, 5);
        Check.due("nine events, one of which tells", x.queued(), 0);
        Check.due("not held", x.on(1), false);
        Check.due("a tap, four releases, three presses", x.late(), true);
        x.poll();
        Check.due("the tap's code, and the older ones", x.report(5), 30);
    }

    /** "in their order, the first that is either k's release, or a release of another key ... tells". */
    private static void firstReleaseTells() {
        GhostKeys x = tapAndCodes();
        Check.press(x, 5);
        Check.press(x, 0);
        Check.release(x, 0, 5);
        Check.report("0 is released before 5, by numbers: held", x, 0, 50);
        Check.due("no tap", x.waiting(), 1);
        GhostKeys y = tapAndCodes();
        y.map(0, 10, GhostKeys.CODE, 25, 0);
        y.map(1, 10, GhostKeys.CODE, 55, 0);
        Check.press(y, 5);
        Check.press(y, 10);
        Check.release(y, 5, 10);
        Check.report("5 is released before 10, by numbers: a tap", y, 0, 30);
        Check.report("let go", y, 0);
        Check.report("10 in layer 0", y, 0, 25);
        GhostKeys z = tapAndCodes();
        Check.press(z, 0, 5);
        Check.due("one scan: 0 is in front of 5, so it is an older press", z.queued(), 1);
        Check.release(z, 0);
        Check.due("its release does not tell", z.queued(), 2);
    }

    private static void anyPressBehindTells() {
        for (int told = 0; told < 3; told++) {
            GhostKeys x = tapAndCodes();
            Check.press(x, 5);
            Check.press(x, 0, 1, 2);
            Check.due("four presses", x.queued(), 4);
            Check.release(x, told);
            Check.due("the release of the press " + told + " behind it", x.queued(), 0);
            Check.due("held", x.on(1), true);
        }
    }

    /** "a release of another key whose press is behind it, too". */
    private static void releaseOfAnOlderPressDoesNotTell() {
        GhostKeys x = tapAndCodes();
        Check.press(x, 0);
        Check.press(x, 5);
        Check.press(x, 1);
        Check.release(x, 0);
        Check.due("the older press's release", x.queued(), 3);
        Check.release(x, 1);
        Check.due("that of a press behind it", x.queued(), 0);
        Check.due("held", x.on(1), true);
        GhostKeys y = tapAndCodes();
        Check.press(y, 0);
        Check.press(y, 5);
        Check.release(y, 0);
        Check.release(y, 5);
        Check.due("its own release behind an older one's", y.queued(), 0);
        Check.due("20, 30 down and up, 20 let go", y.waiting(), 4);
        y.poll();
        Check.report("a tap", y, 0, 20, 30);
        Check.report("let go", y, 0, 20);
        Check.report("then the release that waited", y, 0);
    }

    /** "(nothing comes of the release)": it waits for its turn, and is taken. */
    private static void tapsReleaseDoesNothing() {
        GhostKeys x = tapAndCodes();
        x.map(0, 4, GhostKeys.TAP, 31, 2);
        Check.press(x, 5);
        Check.press(x, 4);
        Check.release(x, 5);
        Check.due("the other tap and the release", x.queued(), 2);
        Check.report("a tap", x, 0, 30);
        Check.report("let go", x, 0);
        x.scans(15);
        Check.due("the other is held", x.on(2), true);
        Check.due("the release is taken, too", x.queued(), 0);
        Check.due("nothing came of it", x.waiting(), 0);
        Check.due("and of no layer", x.on(1), false);
    }

    private static void secondTapWaitsByItsOwnTime() {
        GhostKeys x = tapAndCodes();
        x.map(0, 4, GhostKeys.TAP, 31, 2);
        x.map(1, 4, GhostKeys.TAP, 32, 3);
        Check.press(x, 5);
        x.wire(4, true);
        x.scans(19);
        Check.due("s + 19", x.queued(), 2);
        x.scan();
        Check.due("s + 20 of the first", x.queued(), 1);
        Check.due("held", x.on(1), true);
        x.scans(4);
        Check.due("s + 19 of the second", x.queued(), 1);
        x.scan();
        Check.due("s + 20 of the second", x.queued(), 0);
        Check.due("by the layer that the first holds", x.on(3), true);
        Check.due("not by layer 0", x.on(2), false);
    }

    /** "The action of a key in a layer, from now on": also for a press that is not decided yet. */
    private static void actionAtTheTimeOfTaking() {
        GhostKeys x = tapAndCodes();
        Check.press(x, 5);
        x.map(0, 5, GhostKeys.CODE, 33, 0);
        Check.due("not before the next scan", x.queued(), 1);
        x.scan();
        Check.report("by its new action", x, 0, 33);
        GhostKeys y = codesAndChord();
        Check.press(y, 0);
        y.map(0, 0, GhostKeys.CODE, 34, 0);
        y.scans(9);
        Check.report("at the end of its time", y, 0, 34);
    }

    /** "each code of it in turn goes down and is let go"; "0 for none". */
    private static void emptyAndFullMacros() {
        for (int set = 0; set < 16; set++) {
            GhostKeys x = new GhostKeys();
            x.map(0, 0, GhostKeys.MACRO, 1, 0);
            for (int i = 0; i <= 3; i++) {
                x.macro(1, i, (set >> i & 1) != 0 ? 43 - i : 0);
            }
            Check.press(x, 0);
            Check.due("reports of " + set, x.waiting(), 2 * Integer.bitCount(set));
            for (int i = 0; i <= 3; i++) {
                if ((set >> i & 1) != 0) {
                    Check.report(set + ": code " + i, x, 0, 43 - i);
                    Check.report(set + ": let go", x, 0);
                }
            }
            Check.due("not late", x.late(), false);
        }
    }

    /** "Code i (0 .. 3) of macro m (0 .. 3)". */
    private static void firstAndLastMacro() {
        for (int m = 0; m <= 3; m++) {
            GhostKeys x = new GhostKeys();
            for (int other = 0; other <= 3; other++) {
                x.macro(other, 0, 10 + other);
                x.macro(other, 3, 20 + other);
            }
            x.map(0, 0, GhostKeys.MACRO, m, 0);
            Check.press(x, 0);
            Check.report("its first code", x, 0, 10 + m);
            Check.report("let go", x, 0);
            Check.report("its last code", x, 0, 20 + m);
            Check.report("let go", x, 0);
            Check.due("no more", x.waiting(), 0);
        }
    }

    /** "With a press that was taken ... layers are ARMED no longer": neither with a release nor by time. */
    private static void armedUntilTheNextPress() {
        GhostKeys x = allForLayerOne();
        Check.press(x, CODE_KEY);
        Check.press(x, ARMED_KEY);
        Check.release(x, ARMED_KEY);
        Check.due("its own release", x.on(1), true);
        Check.release(x, CODE_KEY);
        Check.due("another's release", x.on(1), true);
        x.scans(100);
        Check.drain(x);
        Check.due("time", x.on(1), true);
        Check.press(x, 23);
        Check.due("a press of NOTHING", x.on(1), false);
        GhostKeys y = tapAndCodes();
        y.map(0, 11, GhostKeys.ARMED, 3, 0);
        Check.tap(y, 11);
        Check.press(y, 5);
        Check.due("a press that is not taken yet", y.on(3), true);
        Check.release(y, 5);
        Check.due("a tap", y.on(3), false);
        Check.tap(y, 11);
        Check.press(y, 5);
        y.scans(19);
        Check.due("s + 19", y.on(3), true);
        y.scan();
        Check.due("s + 20", y.on(3), false);
        GhostKeys z = codesAndChord();
        z.map(0, 11, GhostKeys.ARMED, 3, 0);
        Check.tap(z, 11);
        Check.press(z, 0);
        Check.due("a press that may become a chord", z.on(3), true);
        Check.press(z, 1);
        Check.due("the chord", z.on(3), false);
    }

    /** "(behind what is done by it)". */
    private static void armedLayerIsOnWhileAPressIsTaken() {
        GhostKeys x = allForLayerOne();
        x.map(1, CODE_KEY, GhostKeys.LOCK, 2, 0);
        x.map(1, HELD_KEY, GhostKeys.CODE, 40, 0);
        x.map(1, LOCK_KEY, GhostKeys.TAP, 41, 3);
        Check.tap(x, ARMED_KEY);
        Check.tap(x, CODE_KEY);
        Check.due("locked by the armed layer", x.on(2), true);
        Check.due("which is armed no longer", x.on(1), false);
        Check.tap(x, ARMED_KEY);
        Check.press(x, HELD_KEY);
        Check.report("a code of the armed layer", x, 0, 40);
        Check.release(x, HELD_KEY);
        Check.report("let go", x, 0);
        Check.tap(x, ARMED_KEY);
        Check.tap(x, LOCK_KEY);
        Check.report("a tap of the armed layer", x, 0, 41);
        Check.due("armed no longer", x.on(1), false);
        GhostKeys y = allForLayerOne();
        Check.tap(y, ARMED_KEY);
        Check.press(y, HELD_KEY);
        Check.due("held, though armed no longer", y.on(1), true);
        Check.release(y, HELD_KEY);
        Check.due("neither", y.on(1), false);
    }

    /** "but for one whose action is ARMED". */
    private static void armedPressKeepsArming() {
        GhostKeys x = allForLayerOne();
        x.map(0, 4, GhostKeys.ARMED, 3, 0);
        x.map(1, 4, GhostKeys.ARMED, 2, 0);
        Check.tap(x, ARMED_KEY);
        Check.tap(x, 4);
        Check.due("1 is armed still", x.on(1), true);
        Check.due("2 by the armed layer's action", x.on(2), true);
        Check.due("3 is not, by that of layer 0", x.on(3), false);
        Check.tap(x, CODE_KEY);
        Check.due("1 no longer", x.on(1), false);
        Check.due("2 no longer", x.on(2), false);
    }

    /** "the layer is LOCKED, or no longer". */
    private static void lockIsTurnedEachTime() {
        GhostKeys x = new GhostKeys();
        x.map(0, 0, GhostKeys.LOCK, 1, 0);
        x.map(0, 1, GhostKeys.LOCK, 3, 0);
        for (int i = 1; i <= 6; i++) {
            Check.tap(x, 0);
            Check.due("turn " + i, x.on(1), i % 2 == 1);
            Check.tap(x, 1);
            Check.due("turn " + i + " of the other", x.on(3), i % 2 == 1);
        }
    }

    /** "An object is used for at most 512 calls": the last of them are answered as the first. */
    private static void fiveHundredCalls() {
        GhostKeys x = tapAndCodes();
        x.chord(0, 0b11, 60);
        for (int i = 0; i < 470; i++) {
            Check.due("a hundred scans", x.scans(100), 0);
        }
        Check.press(x, 5);
        x.scans(19);
        Check.due("s + 19", x.queued(), 1);
        x.scan();
        Check.due("s + 20", x.on(1), true);
        Check.release(x, 5);
        Check.press(x, 0);
        x.scans(8);
        Check.due("s + 8", x.queued(), 1);
        x.scan();
        Check.due("s + 9", x.queued(), 0);
        Check.due("20 is down", x.poll(), true);
        Check.due("20", x.report(1), 20);
        x.wire(0, false);
        Check.due("one event", x.scans(100), 1);
        Check.due("20 is let go", x.poll(), true);
        Check.due("nothing is down", x.report(1), 0);
    }
}
