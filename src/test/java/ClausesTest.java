/** Promises 24 to 27: clauses against clauses, and towns that bargain. */
public final class ClausesTest {
    private static final int HUGE = Integer.MAX_VALUE, LOW = Integer.MIN_VALUE;
    private static final Checks checks = new Checks();

    public static void main(String[] args) {
        clashes();
        clashesAtEdges();
        mend();
        letsIn();
        letsInOfTheLost();
        rests();
        restsByBells();
        checks.finish();
    }

    private static void clashes() {
        TideTreaty x = new TideTreaty();
        checks.due(24, "clashes(NONE)", x.clashes(TideTreaty.NONE), 0);
        checks.due(24, "clashes(0)", x.clashes(0), -5);
        x.treaty(0, 0, 2, 0, 6, 5);
        x.treaty(1, 2, 4, 4, 9, 7);
        x.treaty(2, 1, 1, 0, 12, 2);
        x.treaty(3, 0, 5, 1, 5, 4);
        x.treaty(4, 3, 3, 2, 4, 20);
        x.treaty(5, 5, 5, 0, 99, 9);
        int[] pairs = {1, 2, 3, 13, 23, 34, 35};
        checks.due(24, "clashes(NONE)", x.clashes(TideTreaty.NONE), pairs.length);
        for (int i = 0; i < pairs.length; i++) checks.due(24, "clashes(" + i + ")", x.clashes(i), pairs[i]);
        checks.due(24, "clashes(7)", x.clashes(7), -5);
        checks.due(24, "clashes(HUGE)", x.clashes(HUGE), -5);
        checks.due(24, "status(0)", x.status(0), 0);
        checks.due(24, "clashes(-2)", x.clashes(-2), -10);
        checks.due(24, "clashes(LOW)", x.clashes(LOW), -10);
        checks.due(24, "status(0)", x.status(0), 2);
    }

    private static void clashesAtEdges() {
        TideTreaty x = new TideTreaty();
        x.treaty(0, 0, 2, 3, 6, 0);
        x.treaty(0, 2, 3, 6, 9, 0);
        x.treaty(0, 3, 5, 0, 99, 0);
        x.treaty(0, 0, 5, 5, 5, 0);
        x.treaty(0, 0, 5, 9, 4, 0);
        checks.due(24, "clashes(NONE)", x.clashes(TideTreaty.NONE), 1);
        checks.due(24, "clashes(0)", x.clashes(0), 12);
        x.treaty(0, 2, 2, 5, 7, 0);
        checks.due(24, "clashes(0)", x.clashes(0), 5);
        checks.due(24, "clashes(2)", x.clashes(2), 15);
        checks.due(24, "clashes(3)", x.clashes(3), -5);
    }

    private static void mend() {
        TideTreaty x = new TideTreaty();
        checks.due(25, "mend()", x.mend(), 0);
        x.treaty(0, 0, 2, 5, 9, 0);
        checks.due(25, "mend()", x.mend(), 0);
        x.treaty(0, 2, 4, 0, 12, 0);
        checks.due(25, "mend(), cut to 0 till 5", x.mend(), 7);
        x.treaty(0, 4, 5, 5, 8, 0);
        checks.due(25, "mend(), beside what is cut", x.mend(), 7);
        x.treaty(0, 0, 5, 3, 99, 0);
        checks.due(25, "mend(), cut to nothing", x.mend(), 7 + 96);
        x.treaty(0, 5, 5, 2, 7, 0);
        checks.due(25, "mend(), cut to 2 till 5", x.mend(), 7 + 96 + 2);
        x.treaty(0, 0, 5, 50, 20, 0);
        long before = x.digest();
        checks.due(25, "mend(), of no years", x.mend(), 7 + 96 + 2);
        checks.due(25, "digest()", x.digest(), before);
    }

    private static void letsIn() {
        TideTreaty x = new TideTreaty();
        x.coast(4);
        x.cell(0, 2, 40, 0);
        x.cell(1, 2, 30, 1);
        x.cell(2, 2, 20, 0);
        x.cell(3, 2, 50, 2);
        x.dike(0, 3);
        x.dike(2, 1);
        x.dike(3, 9);
        long before = x.digest();
        int[][] due = {{60, 30}, {0, 0}, {0, 0}};
        for (int town = 0; town < 3; town++) {
            for (int what = 0; what < 2; what++) {
                checks.due(26, "letsIn(" + town + ", " + what + ")", x.letsIn(town, what), due[town][what]);
            }
        }
        checks.due(26, "digest()", x.digest(), before);
        x.treaty(0, 1, 1, 0, 1, 20);
        x.bells(0);
        checks.due(26, "letsIn(0, 0), guarded", x.letsIn(0, 0), 40);
        checks.due(26, "letsIn(0, 1), guarded", x.letsIn(0, 1), 0);
        int[][] wrong = {{-1, 0}, {3, 0}, {0, -1}, {0, 2}, {HUGE, LOW}};
        for (int[] w : wrong) checks.due(26, "a wrong letsIn", x.letsIn(w[0], w[1]), TideTreaty.BAD);
        checks.due(26, "status(0)", x.status(0), wrong.length);
    }

    private static void letsInOfTheLost() {
        TideTreaty x = new TideTreaty();
        x.coast(2);
        x.year(3);
        x.dike(0, 3);
        checks.due(26, "letsIn(0, 0), all lost", x.letsIn(0, 0), 0);
        x.cell(1, 2, 30, 0);
        checks.due(26, "letsIn(0, 0), one new", x.letsIn(0, 0), 30);
    }

    private static void rests() {
        TideTreaty x = new TideTreaty();
        checks.due(27, "rests(0)", x.rests(0), 8);
        checks.due(27, "rests(1)", x.rests(1), 0);
        x.coast(2);
        x.cell(0, 2, 50, 0);
        x.cell(1, 2, 4, 1);
        x.dike(0, 3);
        x.dike(1, 5);
        long before = x.digest();
        checks.due(27, "rests(0), town 0 keeps", x.rests(0), 2);
        checks.due(27, "rests(1), town 0 keeps", x.rests(1), 1);
        checks.due(27, "digest()", x.digest(), before);
        // One of two keeps what both need: town 0 its own dike, or town 1 the one that stands before it.
        x.coast(3);
        x.cell(0, 2, 0, 1);
        x.cell(1, 2, 50, 0);
        x.cell(2, 2, 50, 1);
        x.dike(0, 3);
        x.dike(1, 3);
        checks.due(27, "rests(0), one of two", x.rests(0), 4);
        checks.due(27, "rests(1), one of two", x.rests(1), 1);
        for (int what : new int[] {-1, 2, HUGE, LOW}) checks.due(27, "rests(" + what + ")", x.rests(what), -10);
        checks.due(27, "status(0)", x.status(0), 4);
    }

    /** A dike is kept for as much as it costs, as for less: neither does better by doing otherwise. */
    private static void restsByBells() {
        int[] worths = {2, 3, 4};
        int[] many = {4, 8, 4};
        int[] least = {0, 0, 1};
        for (int i = 0; i < 3; i++) {
            TideTreaty x = new TideTreaty();
            x.coast(1);
            x.cell(0, 2, worths[i], 0);
            x.dike(0, 3);
            checks.due(27, "rests(0), worth " + worths[i], x.rests(0), many[i]);
            checks.due(27, "rests(1), worth " + worths[i], x.rests(1), least[i]);
        }
    }
}
