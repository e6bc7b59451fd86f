/** Promises 6 to 9: the reports, their store, and when it is late. */
public final class ReportsTest {
    public static void main(String[] args) {
        nothingTaken();
        codesRise();
        modifiers();
        codeHeldTwice();
        sixAndSeven();
        modifiersAboveSeven();
        eightInTheStore();
        lateAndBack();
        lateStaysUntilAPoll();
        storeGoesRound();
        Check.end();
    }

    private static void nothingTaken() {
        GhostKeys x = new GhostKeys();
        Check.codes(x, 20);
        Check.due("empty: poll", x.poll(), false);
        for (int what : new int[] {-1, 7, 8, Integer.MIN_VALUE, Integer.MAX_VALUE}) {
            Check.due("report of " + what, x.report(what), -1);
        }
        Check.press(x, 0);
        Check.due("waiting", x.waiting(), 1);
        Check.due("none was taken yet", x.report(1), 0);
        Check.report("taken", x, 0, 20);
        Check.due("waiting no longer", x.waiting(), 0);
        Check.due("poll of none", x.poll(), false);
        Check.due("the report taken last stays", x.report(1), 20);
        Check.release(x, 0);
        Check.report("let go", x, 0);
    }

    private static void codesRise() {
        GhostKeys x = new GhostKeys();
        Check.codes(x, 99, 4, 50, 7);
        Check.press(x, 0, 1, 2, 3);
        Check.report("99", x, 0, 99);
        Check.report("4", x, 0, 4, 99);
        Check.report("50", x, 0, 4, 50, 99);
        Check.report("7", x, 0, 4, 7, 50, 99);
    }

    private static void modifiers() {
        GhostKeys x = new GhostKeys();
        for (int i = 0; i < 8; i++) {
            x.map(0, i < 6 ? i : i * 2, GhostKeys.CODE, 100 + i, 0);
        }
        for (int i = 0; i < 6; i++) {
            Check.press(x, i);
            Check.report("modifier " + i, x, (2 << i) - 1);
        }
        Check.release(x, 0, 1, 2, 3, 4, 5);
        Check.drain(x);
        Check.press(x, 12);
        Check.report("106", x, 64);
        Check.press(x, 14);
        Check.report("107", x, 192);
    }

    private static void codeHeldTwice() {
        GhostKeys x = new GhostKeys();
        Check.codes(x, 30, 30);
        Check.press(x, 0, 1);
        Check.due("each once", x.waiting(), 1);
        Check.report("both", x, 0, 30);
        Check.release(x, 0);
        Check.due("it is still held", x.waiting(), 0);
        Check.release(x, 1);
        Check.report("none holds it", x, 0);
    }

    /** Eight keys of which no three are corners of a rectangle, so that all can be down at once. */
    private static final int[] EIGHT = {0, 1, 2, 3, 4, 11, 17, 23};

    private static GhostKeys sixDown() {
        GhostKeys x = new GhostKeys();
        for (int i = 0; i < 8; i++) {
            x.map(0, EIGHT[i], GhostKeys.CODE, 40 + i, 0);
        }
        for (int i = 0; i < 6; i++) {
            Check.due("a press", Check.press(x, EIGHT[i]), 1);
            Check.drain(x);
        }
        return x;
    }

    private static void sixAndSeven() {
        GhostKeys x = sixDown();
        Check.due("six: 1", x.report(1), 40);
        Check.due("six: 6", x.report(6), 45);
        Check.press(x, EIGHT[6]);
        Check.report("seven", x, 0, 1, 1, 1, 1, 1, 1);
        Check.due("an eighth press", Check.press(x, EIGHT[7]), 1);
        Check.due("eight are the same report", x.waiting(), 0);
        Check.release(x, EIGHT[7]);
        Check.due("seven again are the same, too", x.waiting(), 0);
        Check.release(x, EIGHT[0]);
        Check.report("six again", x, 0, 41, 42, 43, 44, 45, 46);
    }

    private static void modifiersAboveSeven() {
        GhostKeys x = sixDown();
        x.map(0, EIGHT[7], GhostKeys.CODE, 107, 0);
        Check.press(x, EIGHT[7]);
        Check.report("six and a modifier", x, 128, 40, 41, 42, 43, 44, 45);
        Check.press(x, EIGHT[6]);
        Check.report("seven and a modifier", x, 128, 1, 1, 1, 1, 1, 1);
        Check.release(x, EIGHT[7]);
        Check.report("seven", x, 0, 1, 1, 1, 1, 1, 1);
    }

    private static void eightInTheStore() {
        GhostKeys x = new GhostKeys();
        Check.codes(x, 20);
        for (int i = 0; i < 4; i++) {
            Check.tap(x, 0);
            Check.due("reports", x.waiting(), 2 * i + 2);
            Check.due("not late", x.late(), false);
        }
        Check.press(x, 0);
        Check.due("still eight", x.waiting(), 8);
        Check.due("late", x.late(), true);
        Check.report("the oldest", x, 0, 20);
        Check.due("what is down was put", x.waiting(), 8);
        Check.due("late no longer", x.late(), false);
        for (int i = 0; i < 3; i++) {
            Check.report("up", x, 0);
            Check.report("down", x, 0, 20);
        }
        Check.report("up at last", x, 0);
        Check.report("the one put by the poll", x, 0, 20);
        Check.due("no more", x.poll(), false);
    }

    private static void lateAndBack() {
        GhostKeys x = new GhostKeys();
        Check.codes(x, 20);
        for (int i = 0; i < 5; i++) {
            Check.tap(x, 0);
        }
        Check.due("late", x.late(), true);
        Check.due("poll", x.poll(), true);
        Check.due("late no longer", x.late(), false);
        Check.due("the report is that put last", x.waiting(), 7);
        Check.press(x, 0);
        Check.due("the next one finds room", x.waiting(), 8);
        Check.due("not late", x.late(), false);
    }

    private static void lateStaysUntilAPoll() {
        GhostKeys x = new GhostKeys();
        Check.codes(x, 20, 21);
        for (int i = 0; i < 4; i++) {
            Check.tap(x, 0);
        }
        Check.tap(x, 1);
        Check.due("late though the report is that put last", x.late(), true);
        x.scans(30);
        Check.due("late still", x.late(), true);
        Check.press(x, 1);
        x.poll();
        Check.due("eight by the poll", x.waiting(), 8);
        for (int i = 0; i < 7; i++) {
            Check.due("poll", x.poll(), true);
        }
        Check.report("21 is put", x, 0, 21);
    }

    private static void storeGoesRound() {
        GhostKeys x = new GhostKeys();
        Check.codes(x, 20, 21, 22);
        for (int i = 0; i < 24; i++) {
            Check.press(x, i % 3);
            Check.release(x, i % 3);
            Check.due("two wait", x.waiting(), 2);
            Check.report("down " + i, x, 0, 20 + i % 3);
            Check.report("up " + i, x, 0);
        }
    }
}
