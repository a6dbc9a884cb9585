/** Promises 28 to 33, sentence by sentence: what is learnt, found, voted, drawn and burnt, at the edges. */
public final class LearntEdgesTest {
    private static final Checks checks = new Checks();

    public static void main(String[] args) {
        tidesToldAndFull();
        noTideTold();
        oneTideAtEachHeight();
        justAsHighAsTheWant();
        nothingGuardedDikesAsTheyAre();
        ofItsOwnWantAlone();
        cellsBehindOthers();
        nextInTheWorseCase();
        nextOfLikeOnes();
        noneFit();
        shellsOfEachCoast();
        shellsAtTheEdges();
        votesAtEachCount();
        votesByWorth();
        theLostDoNotVote();
        drawnByEachSeed();
        drawnByItsMoon();
        drawnIsNoStormTold();
        burnOfNoneAndOfAll();
        checks.finish();
    }

    /** "how many there are. BAD; FULL: 6." */
    private static void tidesToldAndFull() {
        TideTreaty x = new TideTreaty();
        for (int i = 1; i <= 6; i++) checks.due(28, "tide " + i, x.tide(8 - i - 1, i - 1, i % 2 == 0), i);
        checks.due(28, "a seventh", x.tide(0, 0, true), TideTreaty.FULL);
        checks.due(28, "count(5)", x.count(5), 6);
        checks.due(28, "status(2)", x.status(2), 1);
        x.burn(1);
        checks.due(28, "behind burn(1)", x.tide(0, 0, true), 1);
        checks.due(28, "the same once more", x.tide(0, 0, true), 2);
        checks.due(28, "and its contrary", x.tide(0, 0, false), 3);
    }

    /** "w (0 .. 15) that WANT k may be": each, if nothing is told. */
    private static void noTideTold() {
        TideTreaty x = new TideTreaty();
        for (int k = 0; k < 8; k++) {
            checks.due(29, "learnt(" + k + ", 0)", x.learnt(k, 0), 16);
            checks.due(29, "learnt(" + k + ", 1)", x.learnt(k, 1), 0);
        }
    }

    private static TideTreaty oneCell(int height, int dike) {
        TideTreaty x = new TideTreaty();
        x.coast(1);
        x.cell(0, height, 10, 0);
        x.dike(0, dike);
        return x;
    }

    /** A CELL of h feet is wet by 15 less h of the 16. */
    private static void oneTideAtEachHeight() {
        for (int feet = 0; feet <= 18; feet++) {
            for (int wet = 0; wet < 2; wet++) {
                TideTreaty x = oneCell(Math.min(feet, 9), Math.max(0, feet - 9));
                x.tide(5, 0, wet == 1);
                int ifWet = Math.max(0, 15 - feet);
                int fit = wet == 1 ? ifWet : 16 - ifWet;
                checks.due(29, feet + " feet, wet " + wet + ": how many", x.learnt(5, 0), fit);
                checks.due(29, feet + " feet, wet " + wet + ": next", x.learnt(5, 1), fit == 0 ? TideTreaty.NONE : 0);
            }
        }
    }

    /** "by a STORM just as high as WANT k": no spring tide is added, nor is WANT k itself looked at. */
    private static void justAsHighAsTheWant() {
        TideTreaty x = oneCell(9, 5);
        x.tide(0, 0, true);
        checks.due(29, "15 alone, in year 0", x.learnt(0, 0), 1);
        x.want(0, 0);
        checks.due(29, "15 alone, though the want is 0", x.learnt(0, 0), 1);
        x.moon(1);
        x.year(3);
        checks.due(29, "15 alone, in year 3", x.learnt(0, 0), 1);
    }

    /** "nothing GUARDED, DIKES as they are". */
    private static void nothingGuardedDikesAsTheyAre() {
        TideTreaty x = oneCell(2, 0);
        x.tide(0, 0, true);
        x.treaty(4, 0, 0, 0, 99, 0);
        checks.due(29, "guarded", x.learnt(0, 0), 13);
        x.dike(0, 4);
        checks.due(29, "by its dike", x.learnt(0, 0), 9);
        x.want(0, 15);
        x.year(1);
        checks.due(29, "by its dike, a foot lower", x.learnt(0, 0), 10);
        x.undo();
        checks.due(29, "undone", x.learnt(0, 0), 9);
    }

    private static void ofItsOwnWantAlone() {
        TideTreaty x = oneCell(7, 0);
        x.tide(0, 0, true);
        x.tide(7, 0, false);
        int[] due = {8, 16, 16, 16, 16, 16, 16, 8};
        for (int k = 0; k < 8; k++) checks.due(29, "learnt(" + k + ", 0)", x.learnt(k, 0), due[k]);
    }

    /** A CELL is wet only if all nearer to the sea are. */
    private static void cellsBehindOthers() {
        TideTreaty x = new TideTreaty();
        x.coast(3);
        x.cell(1, 7, 10, 0);
        x.tide(1, 2, true);
        checks.due(29, "8 to 15", x.learnt(1, 0), 8);
        x.tide(1, 1, false);
        checks.due(29, "none", x.learnt(1, 0), 0);
        x.burn(1);
        x.tide(1, 2, false);
        checks.due(29, "0 to 7", x.learnt(1, 0), 8);
        x.tide(1, 0, true);
        checks.due(29, "3 to 7", x.learnt(1, 0), 5);
    }

    /** "NEXT: the CELL to be told of next, by which in the worse case fewest are left". */
    private static void nextInTheWorseCase() {
        TideTreaty x = new TideTreaty();
        x.coast(8);
        for (int c = 0; c < 8; c++) x.cell(c, c, 10, 0);
        // Cell c is wet by 15 less c: by cell 7 eight are left in both cases.
        checks.due(29, "of 0 to 15", x.learnt(0, 1), 7);
        x.tide(0, 7, false);
        checks.due(29, "of 0 to 7", x.learnt(0, 1), 3);
        x.tide(0, 3, true);
        checks.due(29, "of 4 to 7", x.learnt(0, 1), 5);
        x.tide(0, 5, true);
        checks.due(29, "of 6 and 7", x.learnt(0, 1), 6);
        x.tide(0, 6, false);
        checks.due(29, "of 6 alone: how many", x.learnt(0, 0), 1);
        checks.due(29, "of 6 alone: the first of like ones", x.learnt(0, 1), 0);
    }

    /** "of like ones the first". */
    private static void nextOfLikeOnes() {
        TideTreaty x = new TideTreaty();
        x.coast(4);
        int[] heights = {6, 7, 8, 7};
        for (int c = 0; c < 4; c++) x.cell(c, heights[c], 10, 0);
        // Cells 1 leaves 8 and 8; 2 and 3 are wet by 7; 0 is by 9.
        checks.due(29, "the best", x.learnt(0, 1), 1);
        x.cell(1, 6, 10, 0);
        // All leave 9 in the worse case.
        checks.due(29, "all alike", x.learnt(0, 1), 0);
    }

    /** "none fit: none". */
    private static void noneFit() {
        TideTreaty x = new TideTreaty();
        x.tide(4, 0, true);
        x.tide(4, 5, false);
        checks.due(29, "all cells alike: how many", x.learnt(4, 0), 0);
        checks.due(29, "all cells alike: next", x.learnt(4, 1), TideTreaty.NONE);
        checks.due(29, "another: how many", x.learnt(3, 0), 16);
        x.burn(1);
        checks.due(29, "burnt: how many", x.learnt(4, 0), 16);
        checks.due(29, "burnt: next", x.learnt(4, 1), 0);
    }

    private static boolean lineFits(int cells, int k, int n) {
        for (int c = k; c < n; c++) if ((cells >> c & 1) == 1) return false;
        return k < 2 || (cells >> (k - 1) & 1) == 1 || (cells >> (k - 2) & 1) == 1;
    }

    /** "LINES k (0 to n ..) that fit": of each coast, for each set of SHELLS. */
    private static void shellsOfEachCoast() {
        for (int n = 1; n <= 8; n++) {
            TideTreaty x = new TideTreaty();
            for (int cells = 0; cells < 1 << n; cells++) {
                if (cells % 128 == 0) x = new TideTreaty();
                if (cells % 128 == 0) x.coast(n);
                int many = 0;
                int least = TideTreaty.NONE;
                for (int k = n; k >= 0; k--) {
                    if (!lineFits(cells, k, n)) continue;
                    many++;
                    least = k;
                }
                checks.due(30, n + " cells: shells(" + cells + ", 0)", x.shells(cells, 0), many);
                checks.due(30, n + " cells: shells(" + cells + ", 1)", x.shells(cells, 1), least);
            }
        }
    }

    private static void shellsAtTheEdges() {
        TideTreaty x = new TideTreaty();
        x.coast(8);
        int[][] due = {{0, 2, 0}, {1, 2, 1}, {2, 2, 2}, {64, 2, 7}, {128, 1, 8}, {255, 1, 8}, {129, 1, 8}, {65, 2, 7}};
        for (int[] d : due) {
            checks.due(30, "shells(" + d[0] + ", 0)", x.shells(d[0], 0), d[1]);
            checks.due(30, "shells(" + d[0] + ", 1)", x.shells(d[0], 1), d[2]);
        }
        checks.due(30, "shells(256, 0)", x.shells(256, 0), -10);
        x.coast(1);
        checks.due(30, "one cell: shells(0, 0), lines 0 and 1", x.shells(0, 0), 2);
        checks.due(30, "one cell: shells(1, 0), line 1", x.shells(1, 0), 1);
        checks.due(30, "one cell: shells(1, 1)", x.shells(1, 1), 1);
        checks.due(30, "one cell: shells(2, 1)", x.shells(2, 1), -10);
    }

    /** "to leave, if it is FLOODED more than n (0 .. 12) times in the next m YEARS (1 .. 12), else to stay". */
    private static void votesAtEachCount() {
        TideTreaty x = new TideTreaty();
        x.coast(1);
        for (int m = 1; m <= 12; m++) {
            for (int n = 0; n <= 12; n++) {
                checks.due(31, "vote(" + m + ", " + n + ", 0)", x.vote(m, n, 0), m > n ? 1 : 0);
                checks.due(31, "vote(" + m + ", " + n + ", 1)", x.vote(m, n, 1), m > n ? 0 : 1);
            }
        }
    }

    /** "WORTH by 10 (cut) vote". */
    private static void votesByWorth() {
        int[] worths = {0, 9, 10, 19, 98, 99};
        int[] votes = {0, 0, 1, 1, 9, 9};
        for (int i = 0; i < worths.length; i++) {
            TideTreaty x = new TideTreaty();
            x.coast(1);
            x.cell(0, 2, worths[i], 0);
            checks.due(31, "worth " + worths[i] + ", leaves", x.vote(1, 0, 0), votes[i]);
            checks.due(31, "worth " + worths[i] + ", stays", x.vote(1, 1, 1), votes[i]);
        }
        // Each for itself, and both answers at once: cell 0 is flooded, the others are not.
        TideTreaty x = new TideTreaty();
        x.coast(3);
        x.cell(0, 2, 15, 0);
        x.cell(1, 9, 15, 0);
        x.cell(2, 2, 15, 0);
        checks.due(31, "to leave", x.vote(1, 0, 0), 1);
        checks.due(31, "to stay", x.vote(1, 0, 1), 2);
    }

    /** "of each CELL that is not LOST": as it is now; one that will be LOST votes, floods of the past do not count. */
    private static void theLostDoNotVote() {
        for (int times = 0; times <= 4; times++) {
            TideTreaty x = new TideTreaty();
            x.coast(2);
            if (times > 0) x.year(times);
            x.cell(1, 9, 50, 0);
            checks.due(31, "flooded " + times + " times: to leave", x.vote(12, 11, 0), times < 3 ? 1 : 0);
            checks.due(31, "flooded " + times + " times: to stay", x.vote(12, 12, 1), times < 3 ? 6 : 5);
        }
    }

    /** STORMS of a SEED, without spring tides, as the document tells X. */
    private static int[] storms(int seed, int m) {
        int[] storms = new int[m];
        java.math.BigInteger x = java.math.BigInteger.valueOf(seed);
        for (int i = 0; i < m; i++) {
            x = x.multiply(java.math.BigInteger.valueOf(1103515245L)).add(java.math.BigInteger.valueOf(12345L));
            x = x.mod(java.math.BigInteger.valueOf(2147483648L));
            storms[i] = x.divide(java.math.BigInteger.valueOf(65536L)).mod(java.math.BigInteger.valueOf(16L)).intValue();
        }
        return storms;
    }

    /** "X is SEED at first (0 .. 999999)": each of 30 YEARS, FLOODED or not at each HEIGHT; the first to 18 feet. */
    private static void drawnByEachSeed() {
        for (int seed : new int[] {0, 1, 2, 65535, 65536, 123456, 999998, 999999}) {
            int[] storms = storms(seed, 30);
            TideTreaty x = new TideTreaty();
            x.coast(1);
            x.moon(9);
            x.year(1);
            for (int height = 0; height <= 9; height++) {
                x.cell(0, height, 10, 0);
                for (int m = 1; m <= 30; m++) {
                    int storm = storms[m - 1] + (m % 9 == 0 ? 2 : 0);
                    String told = "drawn(" + m + ", " + seed + ", 1), height " + height;
                    checks.due(32, told, x.drawn(m, seed, 1), storm > height ? 1 : 0);
                }
            }
            for (int dike = 0; dike <= 9; dike++) {
                x.dike(0, dike);
                checks.due(32, "drawn(1, " + seed + ", 1), dike " + dike, x.drawn(1, seed, 1), storms[0] > 9 + dike ? 1 : 0);
            }
        }
    }

    /** "(spring tides as told)": by the YEAR's own number, for each MOON; it goes on from the YEAR that it is. */
    private static void drawnByItsMoon() {
        // By seed 7 the first storms are 12, 14, 4, 2.
        int[] storms = storms(7, 4);
        for (int moon = 1; moon <= 9; moon++) {
            for (int year = 0; year < 9; year++) {
                TideTreaty x = new TideTreaty();
                x.coast(1);
                if (year > 0) x.year(year);
                x.moon(moon);
                for (int m = 3; m <= 4; m++) {
                    int storm = storms[m - 1] + ((year + m - 1) % moon == 0 ? 2 : 0);
                    x.cell(0, storms[m - 1] + 1, 10, 0);
                    String told = "moon " + moon + ", year " + year + ": drawn(" + m + ", 7, 1)";
                    checks.due(32, told, x.drawn(m, 7, 1), storm > storms[m - 1] + 1 ? 1 : 0);
                }
            }
        }
    }

    /** "what all is as in THEN", but WANTS do not count. */
    private static void drawnIsNoStormTold() {
        TideTreaty x = new TideTreaty();
        int[] first = new int[5];
        for (int what = 0; what < 5; what++) first[what] = x.drawn(30, 4711, what);
        for (int k = 0; k < 8; k++) x.want(k, 15);
        for (int what = 0; what < 5; what++) {
            checks.due(32, "drawn(30, 4711, " + what + ")", x.drawn(30, 4711, what), first[what]);
        }
        checks.due(32, "the same again", x.drawn(30, 4711, 0), first[0]);
        // 20 are due in years 0 and 1: 39 bells are too few where nothing is yielded.
        x.coast(1);
        x.cell(0, 9, 0, 0);
        x.treaty(0, 0, 0, 0, 2, 20);
        x.bells(39);
        checks.due(32, "drawn(1, 0, 0)", x.drawn(1, 0, 0), 19);
        checks.due(32, "drawn(1, 0, 4)", x.drawn(1, 0, 4), 0);
        checks.due(32, "drawn(2, 0, 0)", x.drawn(2, 0, 0), 19);
        checks.due(32, "drawn(2, 0, 4)", x.drawn(2, 0, 4), 1);
        checks.due(32, "count(2)", x.count(2), 39);
    }

    /** "No TREATIES (0), TIDES (1): how many there were." */
    private static void burnOfNoneAndOfAll() {
        TideTreaty x = new TideTreaty();
        checks.due(33, "burn(0) of none", x.burn(0), 0);
        checks.due(33, "burn(1) of none", x.burn(1), 0);
        for (int i = 0; i < 6; i++) {
            x.treaty(0, 0, 5, 0, 9, 20);
            x.tide(i, i, true);
        }
        x.bells(0);
        x.year(1);
        checks.due(33, "all are breached", x.then(0, 4), 63);
        checks.due(33, "burn(0) of six", x.burn(0), 6);
        checks.due(33, "then(0, 4)", x.then(0, 4), 0);
        checks.due(33, "tides stay", x.count(5), 6);
        checks.due(33, "about(0, 0)", x.about(0, 0), TideTreaty.BAD);
        checks.due(33, "treaty", x.treaty(1, 0, 5, 0, 9, 0), 0);
        checks.due(33, "it guards", x.guarded(), 63);
        checks.due(33, "burn(1) of six", x.burn(1), 6);
        checks.due(33, "treaties stay", x.count(4), 1);
        checks.due(33, "count(5)", x.count(5), 0);
        x.year(2);
        x.burn(1);
        checks.due(33, "burn(1) of none leaves none to undo", x.undo(), TideTreaty.NO);
    }
}
