/** Promises 34 to 38, sentence by sentence: IMAGES, STATUS, counts and the digest, at the edges. */
public final class KeepEdgesTest {
    private static final Checks checks = new Checks();

    public static void main(String[] args) {
        imageOfANewObject();
        imageOfAFullOne();
        imagesAreTwo();
        imageIsKeptOver();
        allButThemTextAndStatus();
        yearsThatMayBeUndone();
        eachNumberOfATreaty();
        imageLeavesAll();
        goesOnFromIt();
        countsAtTheirGreatest();
        countsAtTheirLeast();
        digestOfANewObject();
        digestOfFloodsAndBreaches();
        digestOfFullRows();
        eachNumberIsInTheDigest();
        checks.finish();
    }

    /** All that is seen of it but STATUS, which no image keeps. */
    private static long[] allButStatus(TideTreaty x) {
        long[] all = Scenes.allOf(x);
        return java.util.Arrays.copyOfRange(all, 3, all.length);
    }

    private static void imageOfANewObject() {
        for (int i = 0; i < 2; i++) {
            TideTreaty x = new TideTreaty();
            long first = x.digest();
            checks.due(34, "image(" + i + ")", x.image(i), 1);
            x.coast(1);
            x.year(9);
            checks.due(35, "from(" + i + ")", x.from(i), 1);
            checks.due(35, "digest()", x.digest(), first);
            checks.due(35, "undo()", x.undo(), TideTreaty.NO);
            checks.due(35, "from(" + (1 - i) + ")", x.from(1 - i), TideTreaty.NO);
        }
    }

    /** All rows full: eight CELLS, six TREATIES, TIDES and YEARS that may be undone. */
    private static void imageOfAFullOne() {
        TideTreaty x = Scenes.make(Scenes.ALL_FULL);
        x.image(0);
        x.coast(1);
        x.year(1);
        checks.due(35, "from(0)", x.from(0), 1);
        TideTreaty y = Scenes.make(Scenes.ALL_FULL);
        y.image(0);
        checks.dueAll(35, "all is as it was", allButStatus(x), allButStatus(y));
    }

    private static void imagesAreTwo() {
        TideTreaty x = new TideTreaty();
        x.bells(1);
        x.image(0);
        x.bells(2);
        x.image(1);
        x.bells(3);
        x.from(0);
        checks.due(35, "from(0)", x.count(2), 1);
        x.from(1);
        checks.due(35, "from(1)", x.count(2), 2);
        x.from(0);
        checks.due(35, "from(0) again", x.count(2), 1);
        checks.due(34, "image(2)", x.image(2), TideTreaty.BAD);
        checks.due(35, "from(2)", x.from(2), TideTreaty.BAD);
    }

    private static void imageIsKeptOver() {
        TideTreaty x = Scenes.make(Scenes.ALL_FULL);
        x.coast(2);
        x.tide(0, 1, true);
        checks.due(34, "image(0), a second time", x.image(0), 1);
        x.coast(8);
        x.from(0);
        checks.due(35, "count(0)", x.count(0), 2);
        checks.due(35, "count(4)", x.count(4), 0);
        checks.due(35, "count(5)", x.count(5), 1);
        checks.due(35, "count(6)", x.count(6), 0);
        checks.due(35, "the other image stays", x.from(1) + x.count(0), 9);
    }

    /** "IMAGES 0, 1 keep all but them, THE TEXT and STATUS". */
    private static void allButThemTextAndStatus() {
        TideTreaty x = new TideTreaty();
        Checks.type(x, "coast 1;");
        x.image(0);
        x.type('x');
        x.undo();
        x.coast(0);
        x.bells(9);
        x.image(1);
        x.from(0);
        checks.due(35, "the text", x.count(7), 9);
        checks.due(35, "the text is read", x.read(), -18);
        checks.due(35, "status(0)", x.status(0), 1);
        checks.due(35, "status(1)", x.status(1), 1);
        checks.due(35, "an image kept since", x.from(1), 1);
        checks.due(35, "its bells", x.count(2), 9);
        x.clear();
        x.from(0);
        checks.due(35, "an empty text stays so", x.count(7), 0);
    }

    /** "YEARS that may be undone they keep". */
    private static void yearsThatMayBeUndone() {
        for (int years = 0; years <= 9; years++) {
            TideTreaty x = new TideTreaty();
            x.dike(0, 9);
            if (years > 0) x.year(years);
            x.image(0);
            x.bells(9);
            x.year(9);
            checks.due(35, "from(0)", x.from(0), 1);
            int many = Math.min(years, 6);
            checks.due(35, "count(6) of " + years, x.count(6), many);
            for (int i = 1; i <= many; i++) {
                x.undo();
                checks.due(35, "count(1)", x.count(1), years - i);
            }
            checks.due(35, "undo(), none left", x.undo(), TideTreaty.NO);
            x.from(0);
            checks.due(35, "the image has them still", x.count(6), many);
        }
    }

    /** Two TREATIES of which no number is the same, told over one another. */
    private static void eachNumberOfATreaty() {
        TideTreaty x = new TideTreaty();
        x.treaty(1, 2, 3, 4, 9, 5);
        x.image(0);
        long one = x.digest();
        x.burn(0);
        x.treaty(3, 1, 5, 0, 30, 6);
        x.image(1);
        long other = x.digest();
        for (int i = 0; i < 3; i++) {
            x.from(0);
            checks.due(35, "digest() of the one", x.digest(), one);
            checks.due(35, "its cost", x.about(0, 1), 5);
            x.from(1);
            checks.due(35, "digest() of the other", x.digest(), other);
            checks.due(35, "its cost", x.about(0, 1), 7);
            checks.due(35, "its cells", x.guarded(), 62);
        }
    }

    private static void imageLeavesAll() {
        TideTreaty x = Scenes.make(Scenes.ALL_FULL);
        long before = x.digest();
        x.image(0);
        x.image(1);
        checks.due(34, "digest()", x.digest(), before);
        checks.due(34, "count(6)", x.count(6), 6);
        checks.due(34, "undo()", x.undo(), 1);
    }

    /** "it goes on from one": YEARS run from there as they did. */
    private static void goesOnFromIt() {
        TideTreaty x = Scenes.make(Scenes.ALL_FULL);
        x.image(0);
        int bells = x.year(9);
        long behind = x.digest();
        x.coast(3);
        x.from(0);
        checks.due(35, "year(9)", x.year(9), bells);
        checks.due(35, "digest()", x.digest(), behind);
        x.from(0);
        x.dike(0, 9);
        x.want(0, 1);
        x.end(0);
        x.burn(1);
        x.from(0);
        x.year(9);
        checks.due(35, "digest(), the image was not told", x.digest(), behind);
    }

    private static void countsDue(TideTreaty x, int... due) {
        for (int what = 0; what < 8; what++) checks.due(37, "count(" + what + ")", x.count(what), due[what]);
    }

    private static void countsAtTheirGreatest() {
        TideTreaty x = Scenes.make(Scenes.ALL_FULL);
        x.moon(9);
        x.bells(999);
        x.burn(0);
        for (int i = 0; i < 6; i++) x.treaty(0, 0, 0, 0, 0, 0);
        x.year(6);
        countsDue(x, 8, 15, 999, 9, 6, 6, 6, 150);
        checks.due(37, "count(8)", x.count(8), TideTreaty.BAD);
        checks.due(37, "count(-1)", x.count(-1), TideTreaty.BAD);
        checks.due(37, "status(0)", x.status(0), 2);
    }

    private static void countsAtTheirLeast() {
        TideTreaty x = new TideTreaty();
        x.coast(1);
        x.moon(1);
        x.bells(0);
        countsDue(x, 1, 0, 0, 1, 0, 0, 0, 0);
    }

    private static long mix(long... values) {
        long h = 907;
        for (long v : values) h = 31 * h + v;
        return h;
    }

    /** "count(0) to count(7); WANTS; of CELLS ..": no TREATY and no TIDE. */
    private static void digestOfANewObject() {
        checks.due(38, "a new object", new TideTreaty().digest(), mix(6, 0, 50, 4, 0, 0, 0, 0, 3, 3, 3, 3, 3, 3, 3, 3,
            2, 10, 0, 0, 0, 2, 10, 0, 0, 0, 2, 10, 0, 0, 0, 2, 10, 0, 0, 0, 2, 10, 0, 0, 0, 2, 10, 0, 0, 0));
        TideTreaty x = new TideTreaty();
        x.coast(1);
        checks.due(38, "one cell", x.digest(), mix(1, 0, 50, 4, 0, 0, 0, 0, 3, 3, 3, 3, 3, 3, 3, 3, 2, 10, 0, 0, 0));
    }

    /** "how often FLOODED"; "whether BREACHED (1, 0)". */
    private static void digestOfFloodsAndBreaches() {
        TideTreaty x = new TideTreaty();
        x.coast(3);
        x.dike(1, 2);
        x.cell(2, 9, 0, 1);
        x.bells(0);
        x.treaty(0, 1, 2, 4, 9, 1);
        x.treaty(0, 2, 2, 4, 9, 0);
        // Cell 0 is flooded in each of the five years, cell 1 in year 0 alone: it yields 1 in each of the next three,
        // which pay the first treaty in year 4, and by it cell 1 is guarded then.
        checks.due(38, "bells", x.year(5), 3 - 1 + 1);
        checks.due(38, "paid", x.digest(), mix(3, 5, 3, 4, 2, 0, 5, 0, 3, 3, 3, 3, 3, 3, 3, 3,
            2, 10, 0, 0, 5, 2, 10, 0, 1, 1, 9, 0, 1, 0, 0, 0, 1, 2, 4, 9, 1, 0, 0, 2, 2, 4, 9, 0, 0));
        x.bells(0);
        checks.due(38, "bells", x.year(1), 1);
        checks.due(38, "breached", x.digest(), mix(3, 6, 1, 4, 2, 0, 1, 0, 3, 3, 3, 3, 3, 3, 3, 3,
            2, 10, 0, 0, 6, 2, 10, 0, 1, 1, 9, 0, 1, 0, 0, 0, 1, 2, 4, 9, 1, 1, 0, 2, 2, 4, 9, 0, 0));
    }

    private static void digestOfFullRows() {
        TideTreaty x = new TideTreaty();
        x.coast(8);
        long[] values = new long[8 + 8 + 8 * 5 + 6 * 7 + 6 * 3];
        int at = 0;
        long[] counts = {8, 1, 999, 9, 6, 6, 1, 2};
        for (long v : counts) values[at++] = v;
        for (int k = 0; k < 8; k++) values[at++] = 15 - k;
        for (int c = 0; c < 8; c++) {
            // Height 9 and dikes of 9, 8 .. hold against 17 at cell 0, so that no cell is flooded.
            long[] cell = {9 - c, 99 - c, c % 3, 9 - c, 0};
            x.cell(c, 9 - c, 99 - c, c % 3);
            x.dike(c, 9 - c);
            for (long v : cell) values[at++] = v;
        }
        for (int t = 0; t < 6; t++) {
            long[] treaty = {t, t, 7 - t / 2, t, 99 - t, 20 - t, 0};
            // Of year 0 is treaty 0 alone, which holds against 8 and is paid: of 999 bells 979 are left, 72 come.
            x.treaty(t, t, 7 - t / 2, t, 99 - t, 20 - t);
            for (long v : treaty) values[at++] = v;
        }
        for (int i = 0; i < 6; i++) {
            long[] tide = {7 - i, i + 2, i % 2};
            x.tide(7 - i, i + 2, i % 2 == 1);
            for (long v : tide) values[at++] = v;
        }
        for (int k = 0; k < 8; k++) x.want(k, 15 - k);
        x.moon(9);
        x.bells(999);
        x.type('a');
        x.type('b');
        checks.due(38, "bells", x.year(1), 999);
        checks.due(38, "full rows", x.digest(), mix(values));
    }

    /** Each thing that is told, alone, changes it; what is asked does not. */
    private static void eachNumberIsInTheDigest() {
        TideTreaty base = new TideTreaty();
        base.treaty(0, 1, 2, 3, 9, 5);
        base.tide(1, 1, false);
        long before = base.digest();
        int[][] treaties = {{1, 1, 2, 3, 9, 5}, {0, 0, 2, 3, 9, 5}, {0, 1, 3, 3, 9, 5}, {0, 1, 2, 4, 9, 5},
            {0, 1, 2, 3, 8, 5}, {0, 1, 2, 3, 9, 4}};
        int[] places = {6, 5, 4, 3, 2, 1};
        int[] steps = {1, -1, 1, 1, -1, -1};
        for (int i = 0; i < 6; i++) {
            TideTreaty x = new TideTreaty();
            int[] t = treaties[i];
            x.treaty(t[0], t[1], t[2], t[3], t[4], t[5]);
            x.tide(1, 1, false);
            // Behind it stand whether it is breached, and three numbers of the tide.
            long change = steps[i] * power(places[i] + 3);
            checks.due(38, "treaty's number " + i, x.digest() - before, change);
        }
        TideTreaty x = new TideTreaty();
        x.treaty(0, 1, 2, 3, 9, 5);
        x.tide(2, 1, false);
        checks.due(38, "the tide's k", x.digest() - before, power(2));
        x.burn(1);
        x.tide(1, 2, false);
        checks.due(38, "the tide's cell", x.digest() - before, power(1));
        x.burn(1);
        x.tide(1, 1, true);
        checks.due(38, "whether it was wet", x.digest() - before, 1);
    }

    private static long power(int times) {
        long h = 1;
        for (int i = 0; i < times; i++) h *= 31;
        return h;
    }
}
