/** Promises 1 to 5, 15 and 17: contacts, scans, which keys are read, seen and believed, and the history. */
public final class ContactsTest {
    private static final int READ = 0;
    private static final int SEEN = 1;
    private static final int BELIEVED = 2;
    private static final int UNBELIEVED = 3;

    public static void main(String[] args) {
        newObject();
        wire();
        seenFromTheFifthScanOn();
        bounce();
        bounceAnew();
        scanAndScans();
        wrongInputs();
        ghostIsReadNotBelieved();
        ghostInEveryRectangle();
        noGhostOfAGhost();
        believedStaysInDoubt();
        doubtEnds();
        eventsComeByNumbers();
        historyHas32();
        Check.end();
    }

    private static void newObject() {
        GhostKeys x = new GhostKeys();
        Check.due("new: waiting", x.waiting(), 0);
        Check.due("new: late", x.late(), false);
        Check.due("new: poll", x.poll(), false);
        Check.due("new: queued", x.queued(), 0);
        Check.due("new: history(0)", x.history(0), -1);
        for (int layer = 0; layer < 4; layer++) {
            Check.due("new: on " + layer, x.on(layer), layer == 0);
        }
        for (int key = 0; key < 24; key++) {
            Check.due("new: top of " + key, x.top(key), -1);
            for (int what = 0; what < 4; what++) {
                Check.due("new: key " + key + ", " + what, x.key(key, what), 0);
            }
        }
        for (int what = 0; what <= 6; what++) {
            Check.due("new: report " + what, x.report(what), 0);
        }
        Check.due("new: 100 scans", x.scans(100), 0);
    }

    private static void wire() {
        for (int key = 0; key < 24; key++) {
            GhostKeys x = new GhostKeys();
            x.wire(key, true);
            Check.due("wired before a scan", x.key(key, READ), 0);
            x.scan();
            for (int other = 0; other < 24; other++) {
                Check.due("wired " + key + ": read " + other, x.key(other, READ), other == key ? 1 : 0);
            }
            x.wire(key, false);
            Check.due("before the next scan", x.key(key, READ), 1);
            x.scan();
            Check.due("wired off", x.key(key, READ), 0);
        }
    }

    private static void seenFromTheFifthScanOn() {
        GhostKeys x = new GhostKeys();
        x.wire(3, true);
        Check.due("four scans", x.scans(4), 0);
        Check.due("not seen after four", x.key(3, SEEN), 0);
        x.wire(3, false);
        x.scan();
        x.wire(3, true);
        Check.due("four again", x.scans(4), 0);
        Check.due("four and four are not five in a row", x.key(3, SEEN), 0);
        Check.due("the fifth", x.scan(), 1);
        Check.due("seen", x.key(3, SEEN), 1);
        Check.due("believed", x.key(3, BELIEVED), 1);
        Check.due("not unbelieved", x.key(3, UNBELIEVED), 0);
        x.wire(3, false);
        Check.due("off, four", x.scans(4), 0);
        Check.due("still seen", x.key(3, SEEN), 1);
        Check.due("off, the fifth", x.scan(), 1);
        Check.due("no longer seen", x.key(3, SEEN), 0);
        Check.due("no longer believed", x.key(3, BELIEVED), 0);
    }

    private static void bounce() {
        int pattern = 0b10010110;
        for (int wired = 0; wired < 2; wired++) {
            GhostKeys x = new GhostKeys();
            x.wire(5, wired == 1);
            x.bounce(5, pattern);
            for (int i = 0; i < 10; i++) {
                x.scan();
                Check.due("bounce, scan " + i, x.key(5, READ), i < 8 ? wired ^ pattern >> i & 1 : wired);
            }
        }
        GhostKeys x = new GhostKeys();
        x.bounce(5, 255);
        Check.due("a bounce of eight scans is a press", x.scans(8), 1);
        Check.due("and a release", x.scans(5), 1);
    }

    private static void bounceAnew() {
        GhostKeys x = new GhostKeys();
        x.bounce(5, 255);
        x.scans(2);
        x.bounce(5, 2);
        x.scan();
        Check.due("the new pattern holds: 0", x.key(5, READ), 0);
        x.scan();
        Check.due("the new pattern holds: 1", x.key(5, READ), 1);
        x.scan();
        Check.due("the new pattern holds: 2", x.key(5, READ), 0);
    }

    private static void scanAndScans() {
        GhostKeys x = new GhostKeys();
        for (int key = 0; key < 6; key++) {
            x.wire(key, true);
        }
        for (int i = 0; i < 4; i++) {
            Check.due("scan " + i, x.scan(), 0);
        }
        Check.due("scan 4", x.scan(), 6);
        Check.due("scan 5", x.scan(), 0);
        x.bounce(0, 0b11111);
        Check.due("a release and a press within 100 scans", x.scans(100), 2);
        x.bounce(0, 0b11111);
        Check.due("1 scan", x.scans(1), 0);
        Check.due("4 scans more", x.scans(4), 1);
    }

    private static void wrongInputs() {
        GhostKeys x = new GhostKeys();
        for (int key : new int[] {-1, 24, Integer.MIN_VALUE, Integer.MAX_VALUE}) {
            Check.index("wire", () -> x.wire(key, true));
            Check.index("bounce", () -> x.bounce(key, 1));
            Check.index("bounce, all wrong", () -> x.bounce(key, 256));
            Check.index("key", () -> x.key(key, 0));
        }
        for (int pattern : new int[] {-1, 256, Integer.MIN_VALUE, Integer.MAX_VALUE}) {
            Check.argument("bounce's pattern", () -> x.bounce(0, pattern));
        }
        for (int many : new int[] {0, -1, 101, Integer.MIN_VALUE, Integer.MAX_VALUE}) {
            Check.argument("scans", () -> x.scans(many));
        }
        for (int what : new int[] {-1, 4, Integer.MIN_VALUE, Integer.MAX_VALUE}) {
            Check.index("key's what", () -> x.key(0, what));
        }
        Check.due("nothing came of it", x.scans(20), 0);
        x.bounce(0, 31);
        Check.argument("a pattern too large", () -> x.bounce(0, 256));
        Check.due("the pattern before holds on", x.scans(5), 1);
        x.wire(23, true);
        x.wire(0, true);
        Check.due("the last key is one", x.scans(5), 1);
    }

    private static void ghostIsReadNotBelieved() {
        GhostKeys x = new GhostKeys();
        Check.due("two of a row", Check.press(x, 0, 1), 2);
        Check.due("a third corner and its ghost", Check.press(x, 6), 0);
        for (int key : new int[] {6, 7}) {
            Check.due("read " + key, x.key(key, READ), 1);
            Check.due("seen " + key, x.key(key, SEEN), 1);
            Check.due("not believed " + key, x.key(key, BELIEVED), 0);
            Check.due("unbelieved " + key, x.key(key, UNBELIEVED), 1);
        }
        Check.due("others are not read", x.key(8, READ) + x.key(12, READ) + x.key(2, READ), 0);
        Check.due("nor in time", x.scans(50), 0);
    }

    private static void ghostInEveryRectangle() {
        for (int a = 0; a < 24; a++) {
            for (int b = 0; b < 24; b++) {
                if (a / 6 == b / 6 || a % 6 == b % 6) {
                    continue;
                }
                GhostKeys x = new GhostKeys();
                int ghost = a / 6 * 6 + b % 6;
                int corner = b / 6 * 6 + a % 6;
                x.wire(a, true);
                x.wire(b, true);
                x.scan();
                Check.due("two corners: " + ghost, x.key(ghost, READ), 0);
                x.wire(corner, true);
                x.scan();
                int read = 0;
                for (int key = 0; key < 24; key++) {
                    read |= x.key(key, READ) << key;
                }
                Check.due("corners " + a + ", " + b, read, 1 << a | 1 << b | 1 << corner | 1 << ghost);
            }
        }
    }

    private static void noGhostOfAGhost() {
        GhostKeys x = new GhostKeys();
        for (int key : new int[] {0, 1, 6, 8, 13}) {
            x.wire(key, true);
        }
        x.scan();
        Check.due("7 is a ghost by 0, 1, 6", x.key(7, READ), 1);
        Check.due("2 is a ghost by 0, 6, 8", x.key(2, READ), 1);
        Check.due("12 is a ghost by 0, 1, 13", x.key(12, READ), 1);
        Check.due("14 would be one only by 13 and the ghost 7 or 2", x.key(14, READ), 0);
    }

    private static void believedStaysInDoubt() {
        GhostKeys x = new GhostKeys();
        Check.press(x, 0, 1);
        Check.press(x, 6);
        for (int key = 0; key < 2; key++) {
            Check.due("believed before", x.key(key, BELIEVED), 1);
            Check.due("seen and believed", x.key(key, UNBELIEVED), 0);
        }
        GhostKeys y = new GhostKeys();
        Check.due("three corners at once and a ghost: none", Check.press(y, 0, 1, 6), 0);
        Check.due("0 is unbelieved", y.key(0, UNBELIEVED), 1);
    }

    private static void doubtEnds() {
        GhostKeys x = new GhostKeys();
        Check.press(x, 0, 1);
        Check.press(x, 6);
        Check.due("1 goes: its release and the press of 6", Check.release(x, 1), 2);
        Check.due("press of 6", x.history(0), 13);
        Check.due("release of 1", x.history(1), 2);
        Check.due("6 is believed", x.key(6, BELIEVED), 1);
        Check.due("7 is not seen", x.key(7, SEEN), 0);
        GhostKeys y = new GhostKeys();
        Check.press(y, 0, 1);
        Check.press(y, 6);
        y.wire(6, false);
        Check.due("the unbelieved one goes without an event", y.scans(5), 0);
        Check.due("it is not seen", y.key(6, SEEN), 0);
    }

    private static void eventsComeByNumbers() {
        GhostKeys x = new GhostKeys();
        Check.press(x, 5, 10, 21);
        Check.due("21", x.history(0), 43);
        Check.due("10", x.history(1), 21);
        Check.due("5", x.history(2), 11);
        x.wire(2, true);
        x.wire(12, true);
        Check.due("releases and presses", Check.release(x, 5, 21), 4);
        Check.due("release 21", x.history(0), 42);
        Check.due("press 12", x.history(1), 25);
        Check.due("release 5", x.history(2), 10);
        Check.due("press 2", x.history(3), 5);
    }

    private static void historyHas32() {
        GhostKeys x = new GhostKeys();
        for (int i = 0; i < 15; i++) {
            Check.tap(x, i);
        }
        Check.due("29", x.history(29), 1);
        Check.due("30: not so many", x.history(30), -1);
        Check.tap(x, 15);
        Check.due("31", x.history(31), 1);
        Check.tap(x, 16);
        for (int i = 0; i < 32; i++) {
            int key = 16 - i / 2;
            Check.due("history " + i, x.history(i), i % 2 == 0 ? 2 * key : 2 * key + 1);
        }
        for (int i : new int[] {-1, 32, 33, Integer.MIN_VALUE, Integer.MAX_VALUE}) {
            Check.due("history of " + i, x.history(i), -1);
        }
    }
}
