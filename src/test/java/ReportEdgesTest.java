/** Each boundary that the document names for reports and their store: just inside it and just outside. */
public final class ReportEdgesTest {
    /** Eight keys of which no three are corners of a rectangle, so that all can be down at once. */
    private static final int[] EIGHT = {0, 1, 2, 3, 4, 11, 17, 23};

    public static void main(String[] args) {
        firstAndLastCode();
        firstAndLastModifier();
        codesRise();
        eachCodeOnce();
        sixAndMoreCodes();
        modifiersAreNotAmongTheSix();
        momentarySeventhCode();
        nothingDownAtFirst();
        sameReportIsNotPut();
        oneToNineReports();
        lateByAMacro();
        sameReportIsNotLate();
        lateUntilThePoll();
        lateAndSameAsPutLast();
        pollOfAStoreThatIsNotLate();
        lateAgainByThePoll();
        emptyStore();
        oldestFirst();
        storeGoesRoundAtEveryPlace();
        partsOfAReport();
        Check.end();
    }

    /** "Codes are 4 .. 107, of which 100 .. 107 are MODIFIERS." */
    private static void firstAndLastCode() {
        for (int code = 4; code <= 107; code++) {
            GhostKeys x = new GhostKeys();
            x.map(0, 0, GhostKeys.CODE, code, 0);
            Check.press(x, 0);
            if (code < 100) {
                Check.report("code " + code, x, 0, code);
            } else {
                Check.report("modifier " + code, x, 1 << (code - 100));
            }
            Check.release(x, 0);
            Check.report("let go " + code, x, 0);
        }
    }

    private static GhostKeys eightCodes(int first) {
        GhostKeys x = new GhostKeys();
        for (int i = 0; i < 8; i++) {
            x.map(0, EIGHT[i], GhostKeys.CODE, first + i, 0);
        }
        return x;
    }

    /** "the modifiers that are down, bit i for code 100 + i". */
    private static void firstAndLastModifier() {
        GhostKeys x = eightCodes(100);
        for (int i = 0; i < 8; i++) {
            Check.press(x, EIGHT[i]);
            Check.report("modifiers up to " + i, x, (2 << i) - 1);
        }
        for (int i = 0; i < 8; i++) {
            Check.release(x, EIGHT[i]);
            Check.report("modifiers from " + (i + 1), x, 255 & -(2 << i));
        }
        GhostKeys y = eightCodes(96);
        Check.press(y, EIGHT);
        Check.drain(y);
        Check.due("100 .. 103", y.report(0), 15);
        Check.due("96", y.report(1), 96);
        Check.due("99", y.report(4), 99);
        Check.due("no more", y.report(5), 0);
    }

    /** "the other codes that are down, rising". */
    private static void codesRise() {
        int[][] orders = {{4, 50, 99}, {4, 99, 50}, {50, 4, 99}, {50, 99, 4}, {99, 4, 50}, {99, 50, 4}};
        for (int[] order : orders) {
            GhostKeys x = new GhostKeys();
            Check.codes(x, order);
            Check.press(x, 0, 1, 2);
            Check.due("three reports", x.waiting(), 3);
            Check.report("one", x, 0, order[0]);
            Check.report("two", x, 0, Math.min(order[0], order[1]), Math.max(order[0], order[1]));
            Check.report("three", x, 0, 4, 50, 99);
        }
    }

    /** "each once"; "it is down as long as something holds it". */
    private static void eachCodeOnce() {
        for (int code : new int[] {4, 99, 100, 107}) {
            GhostKeys x = new GhostKeys();
            Check.codes(x, code, code, code);
            x.chord(0, 0b11000, code);
            Check.press(x, 0, 1, 2, 3, 4);
            Check.due("one report for all", x.waiting(), 1);
            x.poll();
            Check.due("once", x.report(2), 0);
            Check.release(x, 1, 3);
            Check.release(x, 0, 4);
            Check.due("something holds it", x.waiting(), 0);
            Check.release(x, 2);
            Check.report("nothing holds it", x, 0);
        }
    }

    /** "if they are more than six, six times 1". */
    private static void sixAndMoreCodes() {
        for (int many = 5; many <= 8; many++) {
            GhostKeys x = eightCodes(40);
            for (int i = 0; i < many; i++) {
                x.wire(EIGHT[i], true);
            }
            x.scans(5);
            Check.due("reports of " + many, x.waiting(), Math.min(many, 7));
            Check.drain(x);
            for (int i = 1; i <= 6; i++) {
                int code = i <= many ? 39 + i : 0;
                Check.due(many + " codes: " + i, x.report(i), many > 6 ? 1 : code);
            }
            Check.due("no modifiers", x.report(0), 0);
            Check.release(x, EIGHT[0]);
            Check.due("one less is another report but from eight", x.poll(), many < 8);
            Check.due("its first code", x.report(1), many < 8 ? 41 : 1);
        }
    }

    private static void modifiersAreNotAmongTheSix() {
        GhostKeys x = eightCodes(94);
        Check.press(x, EIGHT);
        Check.due("eight reports", x.waiting(), 8);
        Check.drain(x);
        Check.due("100, 101", x.report(0), 3);
        Check.due("six codes", x.report(1), 94);
        Check.due("the sixth", x.report(6), 99);
        GhostKeys y = eightCodes(93);
        Check.press(y, EIGHT);
        Check.drain(y);
        Check.due("seven codes and 100", y.report(0), 1);
        Check.due("six times 1", y.report(1), 1);
        Check.due("six times 1", y.report(6), 1);
    }

    private static void momentarySeventhCode() {
        GhostKeys x = eightCodes(40);
        x.map(0, EIGHT[6], GhostKeys.MACRO, 0, 0);
        x.map(0, EIGHT[7], GhostKeys.TAP, 90, 1);
        x.macro(0, 0, 43);
        x.macro(0, 1, 4);
        Check.press(x, 0, 1, 2, 3, 4, 11);
        Check.drain(x);
        Check.press(x, EIGHT[6]);
        Check.report("a seventh for a moment", x, 0, 1, 1, 1, 1, 1, 1);
        Check.report("six again", x, 0, 40, 41, 42, 43, 44, 45);
        Check.due("one of the six changes nothing", x.waiting(), 0);
        Check.tap(x, EIGHT[7]);
        Check.report("a seventh for a moment", x, 0, 1, 1, 1, 1, 1, 1);
        Check.report("six again", x, 0, 40, 41, 42, 43, 44, 45);
    }

    /** "(at first: nothing down)". */
    private static void nothingDownAtFirst() {
        GhostKeys x = new GhostKeys();
        x.map(0, 0, GhostKeys.HELD, 1, 0);
        Check.tap(x, 0);
        Check.tap(x, 1);
        Check.due("no code, no report", x.waiting(), 0);
        Check.due("not late", x.late(), false);
        x.map(0, 1, GhostKeys.CODE, 4, 0);
        Check.press(x, 1);
        Check.due("a code, a report", x.waiting(), 1);
    }

    /** "if the report would be another one than that put into the STORE last": taken or not. */
    private static void sameReportIsNotPut() {
        GhostKeys x = new GhostKeys();
        Check.codes(x, 20, 20);
        Check.press(x, 0);
        Check.due("put", x.waiting(), 1);
        Check.press(x, 1);
        Check.due("the same while it is in the store", x.waiting(), 1);
        Check.drain(x);
        Check.release(x, 1);
        Check.press(x, 1);
        Check.due("the same behind the poll", x.waiting(), 0);
        Check.release(x, 0, 1);
        Check.due("another one", x.waiting(), 1);
    }

    private static GhostKeys reportsInStore(int many) {
        GhostKeys x = new GhostKeys();
        Check.codes(x, 20, 21, 20);
        for (int i = 0; i < many; i++) {
            x.wire(0, i % 2 == 0);
            x.scans(5);
        }
        return x;
    }

    /** "if there are 8 in it, it is not, and the store is LATE". */
    private static void oneToNineReports() {
        for (int many = 0; many <= 11; many++) {
            GhostKeys x = reportsInStore(many);
            Check.due("waiting of " + many, x.waiting(), Math.min(many, 8));
            Check.due("late of " + many, x.late(), many > 8);
        }
    }

    private static void lateByAMacro() {
        for (int before = 0; before <= 8; before++) {
            GhostKeys x = reportsInStore(before);
            x.map(0, 1, GhostKeys.MACRO, 0, 0);
            x.macro(0, 0, 30);
            x.macro(0, 1, 31);
            Check.press(x, 1);
            Check.due("waiting behind " + before, x.waiting(), Math.min(before + 4, 8));
            Check.due("late behind " + before, x.late(), before > 4);
        }
    }

    /** In a full store the report that was put last makes nothing late. */
    private static void sameReportIsNotLate() {
        GhostKeys x = reportsInStore(7);
        Check.press(x, 1);
        Check.due("eight, of 20 and 21", x.waiting(), 8);
        Check.press(x, 2);
        Check.due("20 twice is the same", x.late(), false);
        Check.release(x, 2);
        Check.due("and once again", x.late(), false);
        Check.release(x, 1);
        Check.due("another one is late", x.late(), true);
    }

    /** "If the store was LATE it is so no longer, and if the report is another one ... it is put there." */
    private static void lateUntilThePoll() {
        GhostKeys x = reportsInStore(9);
        x.scans(100);
        Check.due("late in time", x.late(), true);
        Check.press(x, 1);
        Check.due("late still", x.late(), true);
        Check.report("the oldest", x, 0, 20);
        Check.due("late no longer", x.late(), false);
        Check.due("what is down now is put", x.waiting(), 8);
        for (int i = 0; i < 7; i++) {
            Check.due("poll", x.poll(), true);
            Check.due("by turns", x.report(1), i % 2 == 0 ? 0 : 20);
        }
        Check.report("of now, not of the ninth change", x, 0, 20, 21);
        Check.due("no more", x.waiting(), 0);
    }

    private static void lateAndSameAsPutLast() {
        GhostKeys x = reportsInStore(10);
        Check.due("late", x.late(), true);
        Check.report("the oldest", x, 0, 20);
        Check.due("late no longer", x.late(), false);
        Check.due("nothing is put", x.waiting(), 7);
        Check.press(x, 0);
        Check.due("the eighth", x.waiting(), 8);
        Check.due("is not late", x.late(), false);
    }

    private static void pollOfAStoreThatIsNotLate() {
        for (int many = 1; many <= 8; many++) {
            GhostKeys x = reportsInStore(many);
            for (int left = many - 1; left >= 0; left--) {
                Check.due("poll", x.poll(), true);
                Check.due("left of " + many, x.waiting(), left);
                Check.due("not late", x.late(), false);
            }
            Check.due("none is left", x.poll(), false);
        }
    }

    private static void lateAgainByThePoll() {
        GhostKeys x = reportsInStore(9);
        x.poll();
        Check.due("full again by the poll", x.waiting(), 8);
        Check.due("not late", x.late(), false);
        Check.release(x, 0);
        Check.due("late again", x.late(), true);
        x.poll();
        Check.due("full again", x.waiting(), 8);
        Check.due("not late", x.late(), false);
        for (int i = 0; i < 8; i++) {
            Check.due("late ones are at the end", x.poll(), true);
        }
        Check.due("nothing down", x.report(1), 0);
        Check.due("no more", x.poll(), false);
    }

    /** "true; false if there is none". */
    private static void emptyStore() {
        GhostKeys x = new GhostKeys();
        Check.due("a new object", x.poll(), false);
        for (int what = 0; what <= 6; what++) {
            Check.due("nothing was taken: " + what, x.report(what), 0);
        }
        Check.codes(x, 20);
        Check.press(x, 0);
        Check.report("one", x, 0, 20);
        for (int i = 0; i < 3; i++) {
            Check.due("none", x.poll(), false);
            Check.due("the one taken last", x.report(1), 20);
            Check.due("none is waiting", x.waiting(), 0);
        }
        Check.release(x, 0);
        Check.due("the one taken last, not put last", x.report(1), 20);
    }

    /** "The bus takes the oldest report of the STORE". */
    private static void oldestFirst() {
        GhostKeys x = eightCodes(40);
        Check.press(x, 0, 1, 2, 3, 4);
        Check.release(x, 0, 1, 2);
        Check.due("eight", x.waiting(), 8);
        for (int i = 0; i < 8; i++) {
            x.poll();
            Check.due("first code of " + i, x.report(1), i < 5 ? 40 : 36 + i);
            Check.due("fifth code of " + i, x.report(5), i == 4 ? 44 : 0);
        }
    }

    /** The store is used again and again: full from each place of it on. */
    private static void storeGoesRoundAtEveryPlace() {
        for (int shift = 0; shift <= 9; shift++) {
            GhostKeys x = new GhostKeys();
            x.map(0, 0, GhostKeys.MACRO, 0, 0);
            x.map(0, 1, GhostKeys.CODE, 20, 0);
            for (int i = 0; i <= 3; i++) {
                x.macro(0, i, 30 + i);
            }
            for (int i = 0; i < shift; i++) {
                x.wire(1, i % 2 == 0);
                x.scans(5);
                x.poll();
            }
            Check.press(x, 0);
            Check.due("full from place " + shift, x.waiting(), 8);
            Check.due("not late", x.late(), false);
            for (int i = 0; i < 8; i++) {
                x.poll();
                int own = i % 2 == 0 ? 30 + i / 2 : 0;
                Check.due(shift + ": report " + i, x.report(shift % 2 + 1), own);
            }
        }
    }

    /** "what = 0 its modifiers, 1 .. 6 its codes ...; NONE for another what". */
    private static void partsOfAReport() {
        for (int taken = 0; taken < 2; taken++) {
            GhostKeys x = eightCodes(95);
            Check.press(x, EIGHT);
            for (int i = 0; i < 8 * taken; i++) {
                x.poll();
            }
            Check.due("modifiers", x.report(0), 7 * taken);
            Check.due("first", x.report(1), 95 * taken);
            Check.due("fifth", x.report(5), 99 * taken);
            Check.due("sixth", x.report(6), 0);
            for (int what : new int[] {-1, 7, 8, -2, Integer.MIN_VALUE, Integer.MAX_VALUE}) {
                Check.due("part " + what, x.report(what), -1);
            }
        }
    }
}
