/** Two objects with the same calls behind them: they answer alike whatever is asked. */
final class Twins {
    /** Keys of which no three are corners of a rectangle. */
    private static final int[] KEYS = {0, 1, 2, 3, 4, 11, 17, 23};

    private Twins() {
    }

    /** Maps keys so that every kind of action, each layer, macro and chord at an edge has its use. */
    static void layOut(GhostKeys x) {
        x.map(0, 0, GhostKeys.CODE, 20, 0);
        x.map(0, 1, GhostKeys.CODE, 21, 0);
        x.map(0, 2, GhostKeys.TAP, 30, 1);
        x.map(0, 3, GhostKeys.MACRO, 0, 0);
        x.map(0, 4, GhostKeys.HELD, 2, 0);
        x.map(0, 11, GhostKeys.ARMED, 3, 0);
        x.map(0, 17, GhostKeys.MACRO, 3, 0);
        x.map(0, 23, GhostKeys.LOCK, 1, 0);
        for (int layer = 1; layer <= 3; layer++) {
            x.map(layer, 0, GhostKeys.CODE, 40 + layer, 0);
        }
        x.macro(0, 0, 60);
        x.macro(0, 3, 61);
        x.macro(3, 0, 62);
        x.macro(3, 3, 107);
        x.chord(0, 0b11, 70);
        x.chord(3, 0b11010, 71);
    }

    /** Everything that can be asked without changing anything. */
    static void same(String what, GhostKeys x, GhostKeys y) {
        Check.due(what + ": waiting", x.waiting(), y.waiting());
        Check.due(what + ": late", x.late(), y.late());
        Check.due(what + ": queued", x.queued(), y.queued());
        for (int i = 0; i <= 6; i++) {
            Check.due(what + ": report " + i, x.report(i), y.report(i));
        }
        for (int i = 0; i < 8; i++) {
            Check.due(what + ": history " + i, x.history(i), y.history(i));
        }
        for (int layer = 0; layer < 4; layer++) {
            Check.due(what + ": on " + layer, x.on(layer), y.on(layer));
        }
        for (int key = 0; key < 24; key++) {
            Check.due(what + ": top " + key, x.top(key), y.top(key));
            for (int part = 0; part < 3; part++) {
                Check.due(what + ": key " + key + ", " + part, x.key(key, part), y.key(key, part));
            }
        }
    }

    /** What is not seen from outside shows in what comes next: time, contacts, bounces, mappings. */
    static void goOnAlike(String what, GhostKeys x, GhostKeys y) {
        for (int i = 0; i < 9; i++) {
            Check.due(what + ": scan", x.scan(), y.scan());
            Check.due(what + ": waiting", x.waiting(), y.waiting());
            Check.due(what + ": queued", x.queued(), y.queued());
        }
        for (int key : KEYS) {
            x.wire(key, false);
            y.wire(key, false);
        }
        Check.due(what + ": all off", x.scans(30), y.scans(30));
        pollAlike(what, x, y);
        for (int key : KEYS) {
            typeAlike(what + ": key " + key, x, y, 1 << key);
        }
        typeAlike(what + ": chord 0", x, y, 0b11);
        typeAlike(what + ": chord 3", x, y, 0b11010);
    }

    private static void typeAlike(String what, GhostKeys x, GhostKeys y, int keys) {
        for (int on = 1; on >= 0; on--) {
            for (int key = 0; key < 24; key++) {
                if ((keys >> key & 1) != 0) {
                    x.wire(key, on == 1);
                    y.wire(key, on == 1);
                }
            }
            Check.due(what + ": events", x.scans(25), y.scans(25));
        }
        pollAlike(what, x, y);
    }

    /** The store's reports; a full one is at most 8, and one more that a late one gets by a poll. */
    private static void pollAlike(String what, GhostKeys x, GhostKeys y) {
        boolean more = true;
        for (int i = 0; i < 10 && more; i++) {
            more = x.poll();
            Check.due(what + ": poll", more, y.poll());
            Check.due(what + ": modifiers", x.report(0), y.report(0));
            Check.due(what + ": first code", x.report(1), y.report(1));
        }
    }
}
