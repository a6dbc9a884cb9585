/** Promises 28 to 33: what is learnt and found, votes, years by a seed, and what is burnt. */
public final class LearntTest {
    private static final int HUGE = Integer.MAX_VALUE, LOW = Integer.MIN_VALUE;
    private static final Checks checks = new Checks();

    public static void main(String[] args) {
        tide();
        learnt();
        learntByDikes();
        shells();
        vote();
        drawn();
        drawnByMoon();
        burn();
        checks.finish();
    }

    private static void tide() {
        TideTreaty x = new TideTreaty();
        checks.due(28, "tide(0, 0, true)", x.tide(0, 0, true), 1);
        int[][] wrong = {{-1, 0}, {8, 0}, {0, -1}, {0, 6}, {HUGE, LOW}};
        for (int[] w : wrong) checks.due(28, "a wrong tide", x.tide(w[0], w[1], true), TideTreaty.BAD);
        for (int i = 2; i <= 6; i++) checks.due(28, "tide(7, 5, false)", x.tide(7, 5, false), i);
        checks.due(28, "a seventh", x.tide(0, 0, true), TideTreaty.FULL);
        checks.due(28, "a wrong seventh", x.tide(8, 0, true), TideTreaty.BAD);
        checks.due(28, "count(5)", x.count(5), 6);
        checks.due(28, "status(0)", x.status(0), wrong.length + 1);
        checks.due(28, "status(2)", x.status(2), 1);
    }

    private static void learnt() {
        TideTreaty x = new TideTreaty();
        x.coast(3);
        x.cell(1, 5, 10, 0);
        x.cell(2, 3, 10, 0);
        x.treaty(0, 0, 2, 0, 9, 0);
        checks.due(29, "learnt(0, 0)", x.learnt(0, 0), 16);
        checks.due(29, "learnt(0, 1)", x.learnt(0, 1), 1);
        x.tide(0, 1, false);
        checks.due(29, "learnt(0, 0), 0 to 5", x.learnt(0, 0), 6);
        checks.due(29, "learnt(0, 1)", x.learnt(0, 1), 0);
        x.tide(0, 0, true);
        checks.due(29, "learnt(0, 0), 3 to 5", x.learnt(0, 0), 3);
        checks.due(29, "learnt(0, 1)", x.learnt(0, 1), 0);
        checks.due(29, "learnt(1, 0), another", x.learnt(1, 0), 16);
        x.tide(0, 2, true);
        checks.due(29, "learnt(0, 0), none", x.learnt(0, 0), 0);
        checks.due(29, "learnt(0, 1), none", x.learnt(0, 1), TideTreaty.NONE);
        int[][] wrong = {{-1, 0}, {8, 0}, {0, -1}, {0, 2}, {LOW, HUGE}};
        for (int[] w : wrong) checks.due(29, "a wrong learnt", x.learnt(w[0], w[1]), -10);
        checks.due(29, "status(0)", x.status(0), wrong.length);
    }

    private static void learntByDikes() {
        TideTreaty x = new TideTreaty();
        x.coast(2);
        x.tide(7, 1, true);
        checks.due(29, "learnt(7, 0), 3 to 15", x.learnt(7, 0), 13);
        x.dike(1, 9);
        checks.due(29, "learnt(7, 0), 12 to 15", x.learnt(7, 0), 4);
        x.cell(0, 9, 10, 0);
        x.dike(0, 9);
        checks.due(29, "learnt(7, 0), 19 is too high", x.learnt(7, 0), 0);
    }

    private static void shells() {
        TideTreaty x = new TideTreaty();
        int[] bits = {0, 1, 2, 3, 5, 16, 32, 63, 17};
        int[] many = {2, 2, 2, 2, 2, 2, 1, 1, 2};
        int[] least = {0, 1, 2, 2, 3, 5, 6, 6, 5};
        for (int i = 0; i < bits.length; i++) {
            checks.due(30, "shells(" + bits[i] + ", 0)", x.shells(bits[i], 0), many[i]);
            checks.due(30, "shells(" + bits[i] + ", 1)", x.shells(bits[i], 1), least[i]);
        }
        int[][] wrong = {{-1, 0}, {64, 0}, {0, -1}, {0, 2}, {LOW, HUGE}};
        for (int[] w : wrong) checks.due(30, "a wrong shells", x.shells(w[0], w[1]), -10);
        checks.due(30, "status(0)", x.status(0), wrong.length);
        x.coast(1);
        checks.due(30, "shells(0, 0), one cell", x.shells(0, 0), 2);
        checks.due(30, "shells(1, 0), one cell", x.shells(1, 0), 1);
        checks.due(30, "shells(2, 0), one cell", x.shells(2, 0), -10);
        x.coast(8);
        checks.due(30, "shells(128, 1)", x.shells(128, 1), 8);
    }

    private static void vote() {
        TideTreaty x = new TideTreaty();
        x.cell(3, 4, 99, 0);
        x.cell(5, 2, 9, 0);
        // Cells 0 to 2 are flooded in each year, those from 3 on in years 0, 4, 8.
        long before = x.digest();
        checks.due(31, "vote(12, 2, 0)", x.vote(12, 2, 0), 3 + 9 + 1);
        checks.due(31, "vote(12, 3, 0)", x.vote(12, 3, 0), 3);
        checks.due(31, "vote(12, 3, 1)", x.vote(12, 3, 1), 10);
        checks.due(31, "vote(12, 11, 0)", x.vote(12, 11, 0), 3);
        checks.due(31, "vote(12, 12, 0)", x.vote(12, 12, 0), 0);
        checks.due(31, "vote(1, 0, 0)", x.vote(1, 0, 0), 13);
        checks.due(31, "digest()", x.digest(), before);
        x.year(3);
        checks.due(31, "vote(2, 0, 0), the lost do not vote", x.vote(2, 0, 0), 10);
        checks.due(31, "vote(1, 0, 1)", x.vote(1, 0, 1), 10);
        int[][] wrong = {{0, 0, 0}, {13, 0, 0}, {1, -1, 0}, {1, 13, 0}, {1, 0, -1}, {1, 0, 2}, {HUGE, LOW, HUGE}};
        for (int[] w : wrong) checks.due(31, "a wrong vote", x.vote(w[0], w[1], w[2]), TideTreaty.BAD);
        checks.due(31, "status(0)", x.status(0), wrong.length);
    }

    /** By seed 7 the storms are 12, 14, 4, 2, 3, 5, 2, 14, 1, 1, and 2 more in years 0, 4, 8. */
    private static void drawn() {
        TideTreaty x = new TideTreaty();
        x.coast(1);
        long before = x.digest();
        checks.due(32, "drawn(0, 7, 0)", x.drawn(0, 7, 0), 50);
        checks.due(32, "drawn(0, 7, 1)", x.drawn(0, 7, 1), 0);
        checks.due(32, "drawn(2, 7, 2)", x.drawn(2, 7, 2), 0);
        checks.due(32, "drawn(2, 7, 3)", x.drawn(2, 7, 3), 10);
        checks.due(32, "drawn(3, 7, 2)", x.drawn(3, 7, 2), 1);
        checks.due(32, "drawn(3, 7, 3)", x.drawn(3, 7, 3), 0);
        int[] flooded = {1, 1, 1, 0, 1, 1, 0, 1, 1, 0};
        for (int i = 0; i < 10; i++) checks.due(32, "drawn(" + (i + 1) + ", 7, 1)", x.drawn(i + 1, 7, 1), flooded[i]);
        checks.due(32, "digest()", x.digest(), before);
        x.cell(0, 9, 10, 0);
        x.dike(0, 4);
        checks.due(32, "drawn(1, 7, 1), 14 over 13", x.drawn(1, 7, 1), 1);
        x.dike(0, 5);
        checks.due(32, "drawn(1, 7, 1), 14 at 14", x.drawn(1, 7, 1), 0);
        x.dike(0, 0);
        checks.due(32, "drawn(1, 999999, 1), 10 over 9", x.drawn(1, 999999, 1), 1);
        checks.due(32, "drawn(2, 999999, 1)", x.drawn(2, 999999, 1), 0);
        x.treaty(0, 0, 0, 1, 9, 20);
        x.bells(20);
        checks.due(32, "drawn(2, 0, 4)", x.drawn(2, 0, 4), 0);
        checks.due(32, "drawn(3, 0, 4)", x.drawn(3, 0, 4), 1);
        int[][] wrong = {{-1, 0, 0}, {31, 0, 0}, {0, -1, 0}, {0, 1000000, 0}, {0, 0, -1}, {0, 0, 5}, {HUGE, LOW, 0}};
        for (int[] w : wrong) checks.due(32, "a wrong drawn", x.drawn(w[0], w[1], w[2]), TideTreaty.BAD);
        checks.due(32, "status(0)", x.status(0), wrong.length);
    }

    private static void drawnByMoon() {
        TideTreaty x = new TideTreaty();
        x.coast(1);
        x.treaty(2, 0, 0, 0, 99, 0);
        checks.due(32, "drawn(1, 7, 1), 14 in a spring tide", x.drawn(1, 7, 1), 0);
        checks.due(32, "drawn(2, 7, 1), 14 in none", x.drawn(2, 7, 1), 1);
        checks.due(32, "drawn(3, 7, 1), 4 in none", x.drawn(3, 7, 1), 0);
    }

    private static void burn() {
        TideTreaty x = new TideTreaty();
        x.treaty(0, 0, 0, 0, 9, 20);
        x.treaty(0, 0, 0, 0, 9, 20);
        x.tide(0, 0, true);
        x.bells(0);
        x.year(1);
        checks.due(33, "about(0, 3)", x.about(0, 3), 1);
        checks.due(33, "burn(0)", x.burn(0), 2);
        checks.due(33, "count(4)", x.count(4), 0);
        checks.due(33, "count(5)", x.count(5), 1);
        checks.due(33, "undo()", x.undo(), TideTreaty.NO);
        x.treaty(1, 0, 0, 0, 9, 20);
        checks.due(33, "about(0, 3), a new one", x.about(0, 3), 0);
        checks.due(33, "burn(1)", x.burn(1), 1);
        checks.due(33, "burn(1)", x.burn(1), 0);
        checks.due(33, "count(4)", x.count(4), 1);
        for (int what : new int[] {-1, 2, HUGE, LOW}) checks.due(33, "burn(" + what + ")", x.burn(what), TideTreaty.BAD);
        checks.due(33, "status(0)", x.status(0), 4);
    }
}
