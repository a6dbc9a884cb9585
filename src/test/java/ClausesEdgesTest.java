/** Promises 24 to 27, sentence by sentence: clauses against clauses, and towns, at the edges. */
public final class ClausesEdgesTest {
    private static final Checks checks = new Checks();

    public static void main(String[] args) {
        noPairs();
        shareACell();
        shareAYear();
        allFifteenPairs();
        pairsInTheirOrder();
        breachedOnesClash();
        mendOfNone();
        mendByEachOverlap();
        mendNoEarlierThanFirst();
        mendAsThoseAreCut();
        mendOfSix();
        letsInByTown();
        letsInAtTheHeightItself();
        letsInOfNoCells();
        letsInMoreThanNow();
        letsInAsTreatiesAreNow();
        letsInCountsNoLost();
        restsOfNoDikes();
        restsByTies();
        restsOfTwoTowns();
        restsOfEachTownAlone();
        restsCountNoLost();
        restsAsTreatiesAreNow();
        checks.finish();
    }

    private static TideTreaty with(int[]... treaties) {
        TideTreaty x = new TideTreaty();
        x.coast(8);
        for (int[] t : treaties) x.treaty(0, t[0], t[1], t[2], t[3], 0);
        return x;
    }

    /** "how many (i = NONE), the i-th. -5: not so many." */
    private static void noPairs() {
        TideTreaty x = with();
        checks.due(24, "no treaties: how many", x.clashes(TideTreaty.NONE), 0);
        checks.due(24, "no treaties: the first", x.clashes(0), -5);
        x = with(new int[] {0, 7, 0, 99});
        checks.due(24, "one treaty: how many", x.clashes(TideTreaty.NONE), 0);
        checks.due(24, "one treaty: the first", x.clashes(0), -5);
        checks.due(24, "the greatest i", x.clashes(Integer.MAX_VALUE), -5);
        checks.due(24, "below NONE", x.clashes(-2), -10);
        checks.due(24, "the least i", x.clashes(Integer.MIN_VALUE), -10);
        checks.due(24, "status(0)", x.status(0), 2);
    }

    private static void clashDue(String told, int clashes, int[] one, int[] other) {
        checks.due(24, told, with(one, other).clashes(-1), clashes);
        checks.due(24, told + ", told the other way", with(other, one).clashes(-1), clashes);
        checks.due(24, told + ": the first", with(one, other).clashes(0), clashes == 1 ? 1 : -5);
    }

    private static void shareACell() {
        clashDue("one cell in both", 1, new int[] {0, 3, 0, 9}, new int[] {3, 7, 0, 9});
        clashDue("side by side", 0, new int[] {0, 3, 0, 9}, new int[] {4, 7, 0, 9});
        clashDue("far off", 0, new int[] {0, 0, 0, 9}, new int[] {7, 7, 0, 9});
        clashDue("one within the other", 1, new int[] {0, 7, 0, 9}, new int[] {4, 4, 0, 9});
        clashDue("the same cell", 1, new int[] {7, 7, 0, 9}, new int[] {7, 7, 0, 9});
    }

    private static void shareAYear() {
        clashDue("one year in both", 1, new int[] {0, 7, 0, 5}, new int[] {0, 7, 4, 9});
        clashDue("till is not in it", 0, new int[] {0, 7, 0, 5}, new int[] {0, 7, 5, 9});
        clashDue("far off", 0, new int[] {0, 7, 0, 1}, new int[] {0, 7, 98, 99});
        clashDue("one within the other", 1, new int[] {0, 7, 0, 99}, new int[] {0, 7, 50, 51});
        clashDue("of no years, within", 0, new int[] {0, 7, 0, 99}, new int[] {0, 7, 50, 50});
        clashDue("till ahead of first, over it", 0, new int[] {0, 7, 20, 30}, new int[] {0, 7, 99, 0});
        clashDue("till ahead of first, within", 0, new int[] {0, 7, 0, 99}, new int[] {0, 7, 60, 40});
    }

    private static void allFifteenPairs() {
        TideTreaty x = with();
        for (int i = 0; i < 6; i++) x.treaty(i, i, 7, i, 50, 0);
        checks.due(24, "how many", x.clashes(-1), 15);
        int at = 0;
        for (int i = 0; i < 6; i++) {
            for (int j = i + 1; j < 6; j++) {
                checks.due(24, "clashes(" + at + ")", x.clashes(at), 10 * i + j);
                at++;
            }
        }
        checks.due(24, "clashes(15)", x.clashes(15), -5);
        checks.due(24, "status(0)", x.status(0), 0);
    }

    private static void pairsInTheirOrder() {
        TideTreaty x = with(new int[] {5, 5, 0, 9}, new int[] {0, 1, 0, 9}, new int[] {5, 7, 8, 20},
            new int[] {1, 2, 0, 1}, new int[] {2, 5, 0, 30});
        int[] pairs = {2, 4, 13, 24, 34};
        checks.due(24, "how many", x.clashes(-1), 5);
        for (int i = 0; i < 5; i++) checks.due(24, "clashes(" + i + ")", x.clashes(i), pairs[i]);
        checks.due(24, "clashes(5)", x.clashes(5), -5);
    }

    private static void breachedOnesClash() {
        TideTreaty x = new TideTreaty();
        x.bells(0);
        x.treaty(0, 0, 5, 0, 9, 20);
        x.treaty(0, 0, 5, 0, 9, 20);
        x.year(1);
        checks.due(24, "both are breached", x.then(0, 4), 3);
        checks.due(24, "how many", x.clashes(-1), 1);
        checks.due(25, "mend()", x.mend(), 9);
        x.end(0);
        checks.due(24, "ended: it is of year 0 still", x.clashes(-1), 1);
        x.year(9);
        checks.due(24, "behind both", x.clashes(-1), 1);
    }

    private static void mendOfNone() {
        checks.due(25, "none", with().mend(), 0);
        checks.due(25, "one", with(new int[] {0, 7, 0, 99}).mend(), 0);
        checks.due(25, "two that do not clash", with(new int[] {0, 7, 0, 50}, new int[] {0, 7, 50, 99}).mend(), 0);
        checks.due(25, "of no years", with(new int[] {0, 7, 0, 99}, new int[] {0, 7, 60, 40}).mend(), 0);
        checks.due(25, "of no years, the lesser", with(new int[] {0, 7, 60, 40}, new int[] {0, 7, 0, 99}).mend(), 0);
    }

    /** "cut short (till is earlier ..) by as few YEARS as they must". */
    private static void mendByEachOverlap() {
        for (int till = 11; till <= 30; till++) {
            TideTreaty x = with(new int[] {0, 3, 20, 25}, new int[] {3, 7, 10, till});
            checks.due(25, "10 till " + till + " beside 20 till 25", x.mend(), Math.max(0, till - 20));
            checks.due(25, "nothing is cut in truth", x.about(1, 4), till);
        }
    }

    /** "no earlier than their first YEAR": one that begins within a lesser one is cut to no YEARS. */
    private static void mendNoEarlierThanFirst() {
        int[][] seconds = {{20, 40}, {21, 40}, {24, 25}, {24, 99}};
        for (int[] s : seconds) {
            TideTreaty x = with(new int[] {0, 7, 20, 25}, new int[] {0, 7, s[0], s[1]});
            checks.due(25, s[0] + " till " + s[1] + " beside 20 till 25", x.mend(), s[1] - s[0]);
        }
        checks.due(25, "begins with its till", with(new int[] {0, 7, 20, 25}, new int[] {0, 7, 25, 99}).mend(), 0);
    }

    /** "so that each clashes with none of a lesser number, as those are cut". */
    private static void mendAsThoseAreCut() {
        int[] first = {0, 1, 5, 9};
        int[] cutTo5 = {1, 2, 0, 9};
        checks.due(25, "cut by 4", with(first, cutTo5).mend(), 4);
        checks.due(25, "beside what is cut", with(first, cutTo5, new int[] {2, 3, 5, 9}).mend(), 4);
        checks.due(25, "beside what is left", with(first, cutTo5, new int[] {2, 3, 4, 9}).mend(), 4 + 5);
        // The earliest of two that it must stop ahead of, whichever is told first.
        int[] late = {0, 1, 60, 70};
        int[] early = {6, 7, 40, 50};
        int[] over = {0, 7, 10, 99};
        checks.due(25, "late and early", with(late, early, over).mend(), 59);
        checks.due(25, "early and late", with(early, late, over).mend(), 59);
        // One cut to no years leaves room for the next.
        checks.due(25, "room", with(new int[] {0, 7, 0, 9}, new int[] {0, 7, 5, 20}, new int[] {0, 7, 9, 20}).mend(), 15);
    }

    private static void mendOfSix() {
        int[] same = {0, 7, 0, 99};
        checks.due(25, "six of all years", with(same, same, same, same, same, same).mend(), 5 * 99);
        int[][] steps = new int[6][];
        for (int i = 0; i < 6; i++) steps[i] = new int[] {0, 7, 50 - 10 * i, 99};
        // Each is cut to the ten years ahead of the one before.
        checks.due(25, "steps", with(steps).mend(), 49 + 59 + 69 + 79 + 89);
    }

    /** Four CELLS of HEIGHT 2, of TOWNS 0, 1, 2, 1, against a STORM of 5. */
    private static TideTreaty towns(int... dikes) {
        TideTreaty x = new TideTreaty();
        x.coast(4);
        int[] worths = {40, 30, 20, 10};
        int[] town = {0, 1, 2, 1};
        for (int c = 0; c < 4; c++) {
            x.cell(c, 2, worths[c], town[c]);
            x.dike(c, dikes[c]);
        }
        return x;
    }

    private static void letsInDue(String told, TideTreaty x, int[]... due) {
        for (int town = 0; town < 3; town++) {
            checks.due(26, told + ": letsIn(" + town + ", 0)", x.letsIn(town, 0), due[town][0]);
            checks.due(26, told + ": letsIn(" + town + ", 1)", x.letsIn(town, 1), due[town][1]);
        }
    }

    /** "were all DIKES of a TOWN 0: how much more WORTH would be FLOODED, of its CELLS, of all others". */
    private static void letsInByTown() {
        letsInDue("at cell 0", towns(3, 0, 0, 0), new int[] {40, 60}, new int[] {0, 0}, new int[] {0, 0});
        letsInDue("at cell 1", towns(0, 3, 0, 0), new int[] {0, 0}, new int[] {40, 20}, new int[] {0, 0});
        letsInDue("at cell 2", towns(0, 0, 3, 0), new int[] {0, 0}, new int[] {0, 0}, new int[] {20, 10});
        letsInDue("at cell 3", towns(0, 0, 0, 3), new int[] {0, 0}, new int[] {10, 0}, new int[] {0, 0});
        letsInDue("at 1 and 3", towns(0, 3, 0, 9), new int[] {0, 0}, new int[] {40, 20}, new int[] {0, 0});
        letsInDue("at 0 and 2", towns(3, 0, 3, 0), new int[] {40, 30}, new int[] {0, 0}, new int[] {0, 0});
        letsInDue("too low", towns(2, 2, 2, 2), new int[] {0, 0}, new int[] {0, 0}, new int[] {0, 0});
        letsInDue("all high", towns(9, 9, 9, 9), new int[] {40, 0}, new int[] {0, 0}, new int[] {0, 0});
        letsInDue("none", towns(0, 0, 0, 0), new int[] {0, 0}, new int[] {0, 0}, new int[] {0, 0});
    }

    /** Without its DIKES a CELL has its HEIGHT still: as high as THE WATER it stays dry, a foot lower it does not. */
    private static void letsInAtTheHeightItself() {
        for (int height = 4; height <= 5; height++) {
            TideTreaty x = new TideTreaty();
            x.coast(2);
            x.cell(0, height, 30, 1);
            x.cell(1, 2, 40, 2);
            x.dike(0, 4);
            boolean wet = height < 5;
            checks.due(26, "height " + height + ": letsIn(1, 0)", x.letsIn(1, 0), wet ? 30 : 0);
            checks.due(26, "height " + height + ": letsIn(1, 1)", x.letsIn(1, 1), wet ? 40 : 0);
            restsDue("height " + height, x, 4, wet ? 2 : 0);
        }
    }

    private static void letsInOfNoCells() {
        TideTreaty x = new TideTreaty();
        x.dike(0, 9);
        letsInDue("all of town 0", x, new int[] {60, 0}, new int[] {0, 0}, new int[] {0, 0});
    }

    /** What is FLOODED as it is counts for nothing more. */
    private static void letsInMoreThanNow() {
        TideTreaty x = towns(0, 0, 3, 0);
        x.cell(3, 2, 10, 0);
        x.cell(0, 2, 40, 2);
        letsInDue("cell 0 is flooded now", x, new int[] {0, 0}, new int[] {0, 0}, new int[] {20, 10});
    }

    private static void letsInAsTreatiesAreNow() {
        TideTreaty x = towns(3, 0, 0, 0);
        x.bells(0);
        x.treaty(0, 2, 2, 0, 1, 20);
        letsInDue("guarded behind", x, new int[] {40, 30}, new int[] {0, 0}, new int[] {0, 0});
        x.treaty(0, 0, 0, 0, 1, 20);
        letsInDue("guarded itself", x, new int[] {0, 0}, new int[] {0, 0}, new int[] {0, 0});
        x.year(1);
        x.want(1, 5);
        x.dike(0, 3);
        letsInDue("breached", x, new int[] {40, 60}, new int[] {0, 0}, new int[] {0, 0});
    }

    private static void letsInCountsNoLost() {
        TideTreaty x = towns(0, 0, 0, 0);
        x.year(3);
        x.cell(2, 2, 20, 2);
        x.dike(0, 3);
        letsInDue("cell 2 alone is not lost", x, new int[] {0, 20}, new int[] {0, 0}, new int[] {0, 0});
    }

    private static void restsDue(String told, TideTreaty x, int many, int least) {
        checks.due(27, told + ": rests(0)", x.rests(0), many);
        checks.due(27, told + ": rests(1)", x.rests(1), least);
    }

    /** "sets by which no TOWN would lose less by doing otherwise": without DIKES it is all one. */
    private static void restsOfNoDikes() {
        restsDue("no dikes", towns(0, 0, 0, 0), 8, 0);
        restsDue("dikes that hold nothing", towns(2, 2, 2, 2), 1, 0);
    }

    /** "it loses a bell for each foot that it keeps, and the WORTH of its CELLS that would be FLOODED". */
    private static void restsByTies() {
        int[] worths = {2, 3, 4};
        int[] many = {1, 2, 1};
        int[] least = {0, 0, 1};
        for (int i = 0; i < 3; i++) {
            TideTreaty x = new TideTreaty();
            x.coast(3);
            x.cell(0, 2, worths[i], 0);
            x.dike(0, 3);
            // The other two towns never need their foot.
            x.cell(1, 9, 0, 1);
            x.cell(2, 9, 0, 2);
            x.dike(1, 1);
            x.dike(2, 1);
            restsDue("3 feet for a worth of " + worths[i], x, many[i], least[i]);
        }
    }

    private static void restsOfTwoTowns() {
        TideTreaty x = new TideTreaty();
        x.coast(3);
        x.cell(0, 2, 0, 1);
        x.cell(1, 2, 50, 0);
        x.cell(2, 2, 50, 1);
        x.dike(0, 3);
        x.dike(1, 3);
        // Town 2 has no cell, so that each set counts with it and without it.
        restsDue("one of two keeps", x, 4, 1);
        x.cell(2, 2, 2, 1);
        restsDue("town 1 has too little to lose", x, 2, 1);
        x.cell(1, 2, 2, 0);
        x.dike(1, 3);
        restsDue("both have too little to lose", x, 2, 0);
    }

    /** Bits of those that keep them: each TOWN alone has something that a DIKE of 3 feet saves. */
    private static void restsOfEachTownAlone() {
        for (int town = 0; town < 3; town++) {
            TideTreaty x = new TideTreaty();
            x.coast(3);
            for (int c = 0; c < 3; c++) {
                x.cell(c, 2, c == 2 ? 99 : 0, c == 2 ? town : (town + 1 + c) % 3);
                x.dike(c, c == 2 ? 3 : 1);
            }
            restsDue("town " + town, x, 1, 1 << town);
        }
    }

    private static void restsCountNoLost() {
        TideTreaty x = new TideTreaty();
        x.coast(1);
        x.year(3);
        x.dike(0, 3);
        restsDue("lost", x, 4, 0);
        x.cell(0, 2, 10, 0);
        x.dike(0, 3);
        x.want(3, 5);
        restsDue("told anew", x, 4, 1);
    }

    private static void restsAsTreatiesAreNow() {
        TideTreaty x = new TideTreaty();
        x.coast(1);
        x.dike(0, 3);
        restsDue("by the dike", x, 4, 1);
        x.bells(0);
        x.treaty(0, 0, 0, 0, 1, 20);
        restsDue("by the treaty", x, 4, 0);
    }
}
