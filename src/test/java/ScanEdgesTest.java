/** Each boundary that the document names for contacts, scans and events: just inside it and just outside. */
public final class ScanEdgesTest {
    private static final int READ = 0;
    private static final int SEEN = 1;
    private static final int BELIEVED = 2;
    private static final int UNBELIEVED = 3;

    public static void main(String[] args) {
        firstAndLastKey();
        endsOfRowsAndColumns();
        twoCornersAndThree();
        oneRowOrOneColumnMakesNoGhost();
        ghostsAreNoContacts();
        fifthScanOfClosing();
        fifthScanOfOpening();
        everyPatternOfEightScans();
        fiveScansAsGhostAndContact();
        ghostIsSeenFromTheFifthScanOn();
        firstAndLastBounce();
        bounceOverSeveralCalls();
        bounceOfOneKeyAlone();
        wiringDuringABounce();
        doubtInEveryRectangle();
        doubtBySeenNotRead();
        doubtByUnbelievedCorners();
        twoSeenCornersAreNoDoubt();
        doubtEndsWithTheScan();
        eventsOfOneScanByNumbers();
        manyScansAreSoManyScans();
        scansAddTheirEvents();
        unseenKeysBeforeAnyScan();
        historyOfOneMoreAndOneLess();
        historyOf32AndMore();
        historyKeepsWhatIsNotTaken();
        Check.end();
    }

    /** "KEYS are 0 .. 23". */
    private static void firstAndLastKey() {
        for (int key = 0; key < 24; key++) {
            GhostKeys x = new GhostKeys();
            Check.due("press of " + key, Check.press(x, key), 1);
            Check.due("its event", x.history(0), 2 * key + 1);
            Check.due("its release", Check.release(x, key), 1);
            Check.due("that event", x.history(0), 2 * key);
        }
    }

    private static int keysThatAre(GhostKeys x, int what) {
        int keys = 0;
        for (int key = 0; key < 24; key++) {
            keys |= x.key(key, what) << key;
        }
        return keys;
    }

    private static int maskOf(int... keys) {
        int mask = 0;
        for (int key : keys) {
            mask |= 1 << key;
        }
        return mask;
    }

    private static GhostKeys scannedOnce(int... keys) {
        GhostKeys x = new GhostKeys();
        for (int key : keys) {
            x.wire(key, true);
        }
        x.scan();
        return x;
    }

    /** "key k lies in row k / 6, column k % 6": where a row ends and the next begins. */
    private static void endsOfRowsAndColumns() {
        Check.due("the four corners", keysThatAre(scannedOnce(0, 5, 18), READ), maskOf(0, 5, 18, 23));
        Check.due("from the other end", keysThatAre(scannedOnce(23, 18, 5), READ), maskOf(0, 5, 18, 23));
        Check.due("5 and 6 lie in two rows", keysThatAre(scannedOnce(5, 6, 11), READ), maskOf(0, 5, 6, 11));
        Check.due("11 and 12 do, too", keysThatAre(scannedOnce(11, 12, 17), READ), maskOf(6, 11, 12, 17));
        Check.due("17 and 18 do, too", keysThatAre(scannedOnce(17, 18, 23), READ), maskOf(12, 17, 18, 23));
        Check.due("no column goes over a row's end", keysThatAre(scannedOnce(5, 6, 12), READ), maskOf(5, 6, 12));
    }

    /** "the contacts of the three other corners of the rectangle are all closed": three, not two. */
    private static void twoCornersAndThree() {
        int[] corners = {8, 10, 20, 22};
        for (int ghost = 0; ghost < 4; ghost++) {
            for (int open = 0; open < 4; open++) {
                GhostKeys x = new GhostKeys();
                for (int i = 0; i < 4; i++) {
                    x.wire(corners[i], i != ghost && i != open);
                }
                x.scan();
                Check.due("ghost " + ghost + ", open " + open, x.key(corners[ghost], READ), ghost == open ? 1 : 0);
            }
        }
    }

    /** "for some other row and some other column". */
    private static void oneRowOrOneColumnMakesNoGhost() {
        Check.due("a whole row", keysThatAre(scannedOnce(6, 7, 8, 9, 10), READ), maskOf(6, 7, 8, 9, 10));
        Check.due("a column", keysThatAre(scannedOnce(2, 8, 14), READ), maskOf(2, 8, 14));
        Check.due("three of a row and one below", keysThatAre(scannedOnce(0, 1, 2, 7), READ),
                maskOf(0, 1, 2, 6, 7, 8));
        Check.due("a row and a column that do not meet", keysThatAre(scannedOnce(0, 1, 2, 3, 4, 11, 17, 23), READ),
                maskOf(0, 1, 2, 3, 4, 11, 17, 23));
    }

    /** A ghost is read by contacts, not by what is read otherwise. */
    private static void ghostsAreNoContacts() {
        GhostKeys x = scannedOnce(0, 1, 6, 13, 14);
        Check.due("7 by 0, 1, 6; 12 by 0, 1, 13; 2 by 1, 13, 14; not 8 by the ghost 7", keysThatAre(x, READ),
                maskOf(0, 1, 2, 6, 7, 12, 13, 14));
    }

    /** "in five scans in a row, is SEEN otherwise from the fifth on": four are not enough. */
    private static void fifthScanOfClosing() {
        for (int key : new int[] {0, 5, 6, 17, 18, 23}) {
            GhostKeys x = new GhostKeys();
            x.wire(key, true);
            for (int scan = 1; scan <= 12; scan++) {
                Check.due("closed for " + scan + ": events", x.scan(), scan == 5 ? 1 : 0);
                Check.due("closed for " + scan + ": read", x.key(key, READ), 1);
                Check.due("closed for " + scan + ": seen", x.key(key, SEEN), scan >= 5 ? 1 : 0);
                Check.due("closed for " + scan + ": believed", x.key(key, BELIEVED), scan >= 5 ? 1 : 0);
            }
        }
    }

    private static void fifthScanOfOpening() {
        for (int closed = 5; closed < 11; closed++) {
            GhostKeys x = new GhostKeys();
            x.wire(4, true);
            x.scans(closed);
            x.wire(4, false);
            for (int scan = 1; scan <= 12; scan++) {
                Check.due("open for " + scan + ": events", x.scan(), scan == 5 ? 1 : 0);
                Check.due("open for " + scan + ": read", x.key(4, READ), 0);
                Check.due("open for " + scan + ": seen", x.key(4, SEEN), scan < 5 ? 1 : 0);
                Check.due("open for " + scan + ": believed", x.key(4, BELIEVED), scan < 5 ? 1 : 0);
            }
        }
    }

    /** "bit i, from the lowest on, tells whether in scan i of these its contact is turned round." */
    private static void everyPatternOfEightScans() {
        for (int pattern = 0; pattern <= 255; pattern++) {
            for (int wired = 0; wired < 2; wired++) {
                GhostKeys x = new GhostKeys();
                x.wire(9, wired == 1);
                x.scans(6);
                x.bounce(9, pattern);
                followPattern(x, pattern, wired);
            }
        }
    }

    private static void followPattern(GhostKeys x, int pattern, int wired) {
        int seen = wired;
        int otherwise = 0;
        for (int i = 0; i < 16; i++) {
            int read = i < 8 ? wired ^ pattern >> i & 1 : wired;
            otherwise = read == seen ? 0 : otherwise + 1;
            boolean turns = otherwise == 5;
            if (turns) {
                seen = read;
                otherwise = 0;
            }
            String what = "wired " + wired + ", pattern " + pattern + ", scan " + i;
            Check.due(what + ": events", x.scan(), turns ? 1 : 0);
            Check.due(what + ": read", x.key(9, READ), read);
            Check.due(what + ": seen", x.key(9, SEEN), seen);
        }
    }

    private static void fiveScansAsGhostAndContact() {
        GhostKeys x = new GhostKeys();
        x.wire(0, true);
        x.wire(1, true);
        x.wire(6, true);
        x.scans(2);
        x.wire(7, true);
        x.wire(0, false);
        x.scans(2);
        Check.due("read for four scans", x.key(7, SEEN) + x.key(0, SEEN), 0);
        Check.due("the fifth brings no event, in doubt", x.scan(), 0);
        Check.due("a ghost, then a contact: five in a row", x.key(7, SEEN), 1);
        Check.due("a contact, then a ghost: five in a row", x.key(0, SEEN), 1);
    }

    private static void ghostIsSeenFromTheFifthScanOn() {
        GhostKeys x = new GhostKeys();
        Check.press(x, 0, 1);
        x.wire(6, true);
        for (int scan = 1; scan <= 7; scan++) {
            Check.due("no event", x.scan(), 0);
            Check.due("ghost for " + scan + ": read", x.key(7, READ), 1);
            Check.due("ghost for " + scan + ": seen", x.key(7, SEEN), scan >= 5 ? 1 : 0);
            Check.due("ghost for " + scan + ": not believed", x.key(7, UNBELIEVED), scan >= 5 ? 1 : 0);
        }
    }

    private static int scansThatRead(int pattern) {
        GhostKeys x = new GhostKeys();
        x.bounce(11, pattern);
        int read = 0;
        for (int i = 0; i < 20; i++) {
            x.scan();
            read |= x.key(11, READ) << i;
        }
        return read;
    }

    /** "the pattern is not 0 .. 255"; "A key bounces in the next eight scans". */
    private static void firstAndLastBounce() {
        Check.due("the least pattern turns nothing", scansThatRead(0), 0);
        Check.due("bit 0 is the next scan", scansThatRead(1), 1);
        Check.due("bit 7 is the eighth", scansThatRead(128), 128);
        Check.due("the largest pattern: eight scans, not the ninth", scansThatRead(255), 255);
    }

    private static void bounceOverSeveralCalls() {
        GhostKeys x = new GhostKeys();
        x.bounce(11, 0b10100001);
        x.scans(5);
        Check.due("scan 4", x.key(11, READ), 0);
        x.scan();
        Check.due("scan 5", x.key(11, READ), 1);
        x.poll();
        x.wire(3, true);
        Check.due("before the next scan", x.key(11, READ), 1);
        x.scans(2);
        Check.due("scan 7", x.key(11, READ), 1);
        x.scan();
        Check.due("scan 8 is over", x.key(11, READ), 0);
    }

    private static void bounceOfOneKeyAlone() {
        for (int key : new int[] {0, 5, 6, 23}) {
            GhostKeys x = new GhostKeys();
            x.bounce(key, 255);
            x.scan();
            Check.due("bounce of " + key, keysThatAre(x, READ), 1 << key);
        }
        GhostKeys x = new GhostKeys();
        x.bounce(0, 1);
        x.bounce(23, 2);
        x.scan();
        Check.due("two bounce: the first's scan", keysThatAre(x, READ), 1);
        x.scan();
        Check.due("the second's scan", keysThatAre(x, READ), 1 << 23);
    }

    /** A contact is "turned round in scans in which it bounces", however it is wired by then. */
    private static void wiringDuringABounce() {
        GhostKeys x = new GhostKeys();
        x.bounce(2, 0b0110);
        x.scans(2);
        Check.due("off, turned round", x.key(2, READ), 1);
        x.wire(2, true);
        x.scan();
        Check.due("on, turned round", x.key(2, READ), 0);
        x.scan();
        Check.due("on, not turned round", x.key(2, READ), 1);
    }

    /** "DOUBTFUL: for some other row and column all three other corners are SEEN." */
    private static void doubtInEveryRectangle() {
        for (int a = 0; a < 24; a++) {
            for (int b = a + 1; b < 24; b++) {
                if (a / 6 == b / 6 || a % 6 == b % 6) {
                    continue;
                }
                GhostKeys x = new GhostKeys();
                int third = a / 6 * 6 + b % 6;
                int ghost = b / 6 * 6 + a % 6;
                Check.due("two corners", Check.press(x, a, b), 2);
                Check.due("the third of " + a + ", " + b, Check.press(x, third), 0);
                Check.due("seen, not believed", keysThatAre(x, UNBELIEVED), maskOf(third, ghost));
                Check.due("believed before", keysThatAre(x, BELIEVED), maskOf(a, b));
            }
        }
    }

    /** The corners that make a doubt are SEEN ones, though they are READ no longer. */
    private static void doubtBySeenNotRead() {
        GhostKeys x = new GhostKeys();
        Check.press(x, 0, 1);
        Check.press(x, 7);
        Check.due("7 and its ghost 6", keysThatAre(x, UNBELIEVED), maskOf(6, 7));
        x.wire(0, false);
        for (int scan = 1; scan <= 4; scan++) {
            Check.due("0 is open for " + scan, x.scan(), 0);
            Check.due("it is not read", x.key(0, READ) + x.key(6, READ), 0);
            Check.due("7 is in doubt still", x.key(7, UNBELIEVED), 1);
        }
        Check.due("the fifth: a release and a press", x.scan(), 2);
        Check.due("7 is believed", x.key(7, BELIEVED), 1);
    }

    private static void doubtByUnbelievedCorners() {
        GhostKeys x = new GhostKeys();
        Check.due("three at once, and a ghost", Check.press(x, 2, 5, 20), 0);
        Check.due("none is believed", keysThatAre(x, UNBELIEVED), maskOf(2, 5, 20, 23));
        Check.due("the fourth contact, too", Check.press(x, 23), 0);
        Check.due("nor in time", x.scans(100), 0);
        x.wire(23, false);
        Check.due("23 is a ghost as before", x.scans(10), 0);
        Check.due("one goes, and with it the ghost: two presses", Check.release(x, 20), 2);
        Check.due("2 and 5", keysThatAre(x, BELIEVED), maskOf(2, 5));
    }

    private static void twoSeenCornersAreNoDoubt() {
        Check.due("one row, one column", Check.press(new GhostKeys(), 0, 1), 2);
        Check.due("one column", Check.press(new GhostKeys(), 0, 6, 12, 18), 4);
        Check.due("two opposite corners", Check.press(new GhostKeys(), 0, 7), 2);
        Check.due("three of a row", Check.press(new GhostKeys(), 0, 1, 2, 3, 4, 5), 6);
    }

    /** What is SEEN changes for all keys before a key is believed, or no longer. */
    private static void doubtEndsWithTheScan() {
        for (int goes : new int[] {7, 22}) {
            GhostKeys x = new GhostKeys();
            int stays = 29 - goes;
            Check.press(x, 7, 22);
            Check.due("in doubt", Check.press(x, 10), 0);
            x.wire(goes, false);
            Check.due("four scans", x.scans(4), 0);
            Check.due("a release and a press", x.scan(), 2);
            Check.due("believed", keysThatAre(x, BELIEVED), maskOf(stays, 10));
            Check.due("by numbers", x.history(0), goes < 10 ? 21 : 44);
            Check.due("by numbers", x.history(1), goes < 10 ? 14 : 21);
        }
    }

    /** "Then, by numbers": the events of one scan come by the numbers of their keys. */
    private static void eventsOfOneScanByNumbers() {
        GhostKeys x = new GhostKeys();
        Check.press(x, 23, 17, 4, 0);
        int[] down = {47, 35, 9, 1};
        for (int i = 0; i < down.length; i++) {
            Check.due("press " + i, x.history(i), down[i]);
        }
        Check.release(x, 0, 4, 23, 17);
        for (int i = 0; i < down.length; i++) {
            Check.due("release " + i, x.history(i), down[i] - 1);
        }
    }

    /** "Many SCANS": as many calls of scan do the same. */
    private static void manyScansAreSoManyScans() {
        for (int many = 1; many <= 30; many++) {
            GhostKeys x = new GhostKeys();
            GhostKeys y = new GhostKeys();
            Twins.layOut(x);
            Twins.layOut(y);
            for (int key : new int[] {2, 6, 23}) {
                x.wire(key, true);
                y.wire(key, true);
            }
            x.bounce(6, 0b1100);
            y.bounce(6, 0b1100);
            int events = 0;
            for (int i = 0; i < many; i++) {
                events += y.scan();
            }
            Check.due("events of " + many, x.scans(many), events);
            Twins.same(many + " scans", x, y);
        }
    }

    /** "how many events they brought": all of them, from the least to the largest many. */
    private static void scansAddTheirEvents() {
        GhostKeys x = new GhostKeys();
        x.bounce(0, 0b11111);
        x.wire(5, true);
        Check.due("a press, a release and another's press", x.scans(100), 3);
        Check.due("nothing more", x.scans(100), 0);
        x.wire(5, false);
        for (int i = 1; i <= 6; i++) {
            Check.due("one scan", x.scans(1), i == 5 ? 1 : 0);
        }
    }

    /** "Nothing wired on, mapped or down", and no scan yet: nothing was READ in the last one. */
    private static void unseenKeysBeforeAnyScan() {
        GhostKeys x = new GhostKeys();
        x.wire(0, true);
        x.bounce(23, 255);
        for (int what = 0; what < 4; what++) {
            Check.due("before a scan: " + what, keysThatAre(x, what), 0);
        }
        Check.due("no event", x.history(0), -1);
    }

    /** "NONE if there were not so many". */
    private static void historyOfOneMoreAndOneLess() {
        GhostKeys x = new GhostKeys();
        for (int events = 0; events <= 8; events++) {
            for (int i = 0; i < 32; i++) {
                int latest = events - 1 - i;
                int want = latest < 0 ? -1 : 2 * (latest / 2) + 1 - latest % 2;
                Check.due(events + " events: history " + i, x.history(i), want);
            }
            x.wire(events / 2, events % 2 == 0);
            x.scans(5);
        }
    }

    /** "or i is not 0 .. 31": the 32nd latest is the last one told. */
    private static void historyOf32AndMore() {
        for (int events = 31; events <= 70; events++) {
            GhostKeys x = new GhostKeys();
            for (int i = 0; i < events; i++) {
                x.wire(i / 2 % 24, i % 2 == 0);
                x.scans(5);
            }
            for (int i = 0; i < 32; i++) {
                int latest = events - 1 - i;
                int want = latest < 0 ? -1 : 2 * (latest / 2 % 24) + 1 - latest % 2;
                Check.due(events + " events: history " + i, x.history(i), want);
            }
            for (int i : new int[] {-1, 32, 33, Integer.MIN_VALUE, Integer.MAX_VALUE}) {
                Check.due(events + " events: history " + i, x.history(i), -1);
            }
        }
    }

    /** "The i-th latest event that a scan brought": whether it was taken or not. */
    private static void historyKeepsWhatIsNotTaken() {
        GhostKeys x = new GhostKeys();
        x.map(0, 3, GhostKeys.TAP, 20, 1);
        Check.press(x, 3);
        Check.due("it waits", x.queued(), 1);
        Check.due("history has it", x.history(0), 7);
        x.scans(20);
        Check.due("taken", x.queued(), 0);
        Check.due("history has it once", x.history(0), 7);
        Check.due("not twice", x.history(1), -1);
    }
}
