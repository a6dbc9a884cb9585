/** Promises 34 to 38: images, status, counts, digest. */
public final class KeepTest {
    private static final int HUGE = Integer.MAX_VALUE, LOW = Integer.MIN_VALUE;
    private static final Checks checks = new Checks();

    public static void main(String[] args) {
        images();
        imagesKeepYearsToUndo();
        imagesStandAlone();
        status();
        count();
        digest();
        checks.finish();
    }

    private static void images() {
        TideTreaty x = new TideTreaty();
        for (int i : new int[] {-1, 2, HUGE, LOW}) checks.due(34, "image(" + i + ")", x.image(i), TideTreaty.BAD);
        for (int i : new int[] {-1, 2, HUGE, LOW}) checks.due(35, "from(" + i + ")", x.from(i), TideTreaty.BAD);
        checks.due(35, "from(0)", x.from(0), TideTreaty.NO);
        checks.due(34, "image(0)", x.image(0), 1);
        checks.due(35, "from(1)", x.from(1), TideTreaty.NO);
        checks.due(36, "status(0)", x.status(0), 8);
        checks.due(36, "status(1)", x.status(1), 2);
        long first = x.digest();
        x.coast(3);
        x.cell(1, 7, 8, 1);
        x.dike(2, 5);
        x.want(3, 9);
        x.moon(7);
        x.bells(20);
        x.treaty(1, 0, 1, 0, 50, 20);
        x.treaty(2, 0, 2, 1, 51, 19);
        x.tide(4, 2, true);
        x.year(2);
        long second = x.digest();
        checks.due(34, "image(1)", x.image(1), 1);
        x.type('q');
        checks.due(35, "from(0)", x.from(0), 1);
        checks.due(35, "count(7), the text stays", x.count(7), 1);
        checks.due(35, "status(0), status stays", x.status(0), 8);
        x.clear();
        checks.due(35, "digest()", x.digest(), first);
        checks.due(35, "from(1)", x.from(1), 1);
        checks.due(35, "digest()", x.digest(), second);
        checks.due(35, "from(1) again", x.from(1), 1);
        checks.due(35, "digest()", x.digest(), second);
    }

    private static void imagesKeepYearsToUndo() {
        TideTreaty x = new TideTreaty();
        x.dike(0, 9);
        x.want(1, 14);
        long start = x.digest();
        x.year(3);
        checks.due(34, "image(0)", x.image(0), 1);
        checks.due(34, "count(6)", x.count(6), 3);
        x.bells(5);
        x.year(6);
        checks.due(35, "from(0)", x.from(0), 1);
        checks.due(35, "count(6)", x.count(6), 3);
        for (int i = 0; i < 3; i++) checks.due(35, "undo()", x.undo(), 1);
        checks.due(35, "digest()", x.digest(), start);
        checks.due(35, "undo()", x.undo(), TideTreaty.NO);
    }

    /** What is told later changes no image, and what goes on from one does not either. */
    private static void imagesStandAlone() {
        TideTreaty x = new TideTreaty();
        x.treaty(0, 0, 0, 0, 9, 9);
        x.tide(0, 0, false);
        x.year(1);
        x.image(0);
        long kept = x.digest();
        x.from(0);
        x.end(0);
        x.want(0, 9);
        x.cell(0, 9, 9, 1);
        x.dike(0, 9);
        x.burn(1);
        x.tide(7, 5, true);
        x.year(9);
        x.from(0);
        checks.due(35, "digest()", x.digest(), kept);
        checks.due(35, "about(0, 4)", x.about(0, 4), 9);
        checks.due(35, "undo()", x.undo(), 1);
        checks.due(35, "count(2)", x.count(2), 50);
    }

    private static void status() {
        TideTreaty x = new TideTreaty();
        x.coast(0);
        x.undo();
        for (int i = 0; i < 8; i++) x.tide(0, 0, true);
        x.clashes(4);
        x.learnt(0, 1);
        x.firstLost();
        checks.due(36, "status(0)", x.status(0), 1);
        checks.due(36, "status(1)", x.status(1), 1);
        checks.due(36, "status(2)", x.status(2), 2);
        for (int what : new int[] {-1, 3, HUGE, LOW}) checks.due(36, "status(" + what + ")", x.status(what), -1);
        checks.due(36, "status(0)", x.status(0), 5);
    }

    private static void count() {
        TideTreaty x = new TideTreaty();
        x.coast(7);
        x.moon(5);
        x.treaty(0, 0, 0, 0, 0, 0);
        x.tide(0, 0, true);
        x.tide(0, 0, true);
        x.year(4);
        x.type(1);
        int[] due = {7, 4, 50, 5, 1, 2, 4, 1};
        for (int i = 0; i < 8; i++) checks.due(37, "count(" + i + ")", x.count(i), due[i]);
        for (int what : new int[] {-1, 8, HUGE, LOW}) checks.due(37, "count(" + what + ")", x.count(what), TideTreaty.BAD);
        checks.due(37, "status(0)", x.status(0), 4);
    }

    private static void digest() {
        TideTreaty x = new TideTreaty();
        x.coast(2);
        x.cell(0, 1, 23, 2);
        x.dike(0, 3);
        x.want(7, 12);
        x.treaty(3, 0, 1, 0, 77, 13);
        x.treaty(0, 1, 1, 0, 88, 20);
        x.tide(6, 1, true);
        x.tide(5, 0, false);
        x.bells(4);
        x.year(1);
        x.type('x');
        // In year 0 nothing is due of the first, which guards both cells: they yield 2 and 1. The second is breached.
        long[] values = {2, 1, 4 + 2 + 1, 4, 2, 2, 1, 1, 3, 3, 3, 3, 3, 3, 3, 12, 1, 23, 2, 3, 0, 2, 10, 0, 0, 0,
            3, 0, 1, 0, 77, 13, 0, 0, 1, 1, 0, 88, 20, 1, 6, 1, 1, 5, 0, 0};
        long h = 907;
        for (long v : values) h = 31 * h + v;
        checks.due(38, "digest()", x.digest(), h);
        checks.due(38, "digest() again", x.digest(), h);
    }
}
