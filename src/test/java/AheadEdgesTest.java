/** Promises 20 to 23, sentence by sentence: what comes, at the edges. */
public final class AheadEdgesTest {
    private static final Checks checks = new Checks();

    public static void main(String[] args) {
        behindNoYears();
        behindEachOf30();
        floodedInTheLastOfThem();
        firstLostOfTheNext30();
        firstLostAlready();
        priceByBells();
        priceByYears();
        priceBehindOthers();
        priceIsTheGreatest();
        timesFewer();
        timesFewerBelowZero();
        offeredFromThisYearOn();
        offeredBehindYear99();
        sixthAndSeventhOffer();
        offerFromAboveTo();
        noFeet();
        nineFeetAtMost();
        firstCellOfLikeOnes();
        fewestFeetWhereverTheyLie();
        feetThatFloodsTake();
        inTheNextYears();
        dryByTreaty();
        checks.finish();
    }

    private static TideTreaty idle(int bells) {
        TideTreaty x = new TideTreaty();
        x.coast(1);
        x.cell(0, 9, 0, 0);
        x.bells(bells);
        return x;
    }

    /** "behind m YEARS (0 .. 30)": behind none all is as it is, and none was the last. */
    private static void behindNoYears() {
        TideTreaty x = new TideTreaty();
        x.treaty(0, 0, 0, 0, 9, 20);
        x.cell(3, 4, 70, 0);
        x.bells(19);
        x.year(3);
        int[] due = {x.count(2), 0, 7, 90, 1};
        for (int what = 0; what < 5; what++) {
            checks.due(20, "then(0, " + what + ")", x.then(0, what), due[what]);
            checks.due(32, "drawn(0, 5, " + what + ")", x.drawn(0, 5, what), due[what]);
        }
    }

    private static TideTreaty busy() {
        TideTreaty x = new TideTreaty();
        x.cell(0, 3, 40, 0);
        x.cell(2, 6, 99, 1);
        x.dike(0, 4);
        x.dike(2, 3);
        for (int k = 0; k < 8; k++) x.want(k, (7 * k + 2) % 13);
        x.moon(3);
        x.treaty(3, 0, 1, 0, 20, 9);
        x.treaty(1, 1, 4, 5, 28, 17);
        return x;
    }

    /** For each m, what so many YEARS bring in truth. */
    private static void behindEachOf30() {
        for (int what = 0; what < 5; what++) {
            TideTreaty asked = busy();
            TideTreaty run = busy();
            for (int m = 1; m <= 30; m++) {
                int flooded = what == 1 ? floodedNext(run) : 0;
                if (what != 1) run.year(1);
                int due = what == 1 ? flooded : run.then(0, what);
                checks.due(20, "then(" + m + ", " + what + ")", asked.then(m, what), due);
            }
        }
    }

    /** Runs a YEAR: which CELLS are FLOODED once more. */
    private static int floodedNext(TideTreaty x) {
        int[] times = new int[6];
        for (int c = 0; c < 6; c++) times[c] = x.of(c, 4);
        x.year(1);
        int flooded = 0;
        for (int c = 0; c < 6; c++) flooded |= (x.of(c, 4) - times[c]) << c;
        return flooded;
    }

    /** "CELLS FLOODED in the last of them". */
    private static void floodedInTheLastOfThem() {
        TideTreaty x = new TideTreaty();
        x.want(1, 0);
        checks.due(20, "then(1, 1)", x.then(1, 1), 63);
        checks.due(20, "then(2, 1), none in the second", x.then(2, 1), 0);
        checks.due(20, "then(3, 1), all in the third", x.then(3, 1), 63);
    }

    private static TideTreaty guardedTill(int till, int yearsRun) {
        TideTreaty x = new TideTreaty();
        x.coast(1);
        x.treaty(0, 0, 0, 0, till, 0);
        if (yearsRun > 0) x.year(yearsRun);
        return x;
    }

    /** "in which YEAR, of the next 30, the first CELL is LOST; none". */
    private static void firstLostOfTheNext30() {
        checks.due(21, "the third", guardedTill(0, 0).firstLost(), 2);
        checks.due(21, "the 29th", guardedTill(26, 0).firstLost(), 28);
        checks.due(21, "the 30th", guardedTill(27, 0).firstLost(), 29);
        checks.due(21, "the 31st", guardedTill(28, 0).firstLost(), TideTreaty.NONE);
        checks.due(21, "the 30th from year 9 on", guardedTill(36, 9).firstLost(), 38);
        checks.due(21, "the 31st from year 9 on", guardedTill(37, 9).firstLost(), TideTreaty.NONE);
        // The first of several, and not CELL 0.
        TideTreaty x = new TideTreaty();
        x.year(2);
        x.cell(0, 2, 10, 0);
        checks.due(21, "cell 1 ahead of cell 0", x.firstLost(), 2);
        checks.due(21, "without any", idle(0).firstLost(), TideTreaty.NONE);
    }

    /** "one is LOST already: this YEAR". */
    private static void firstLostAlready() {
        TideTreaty x = new TideTreaty();
        x.year(3);
        checks.due(21, "in year 3", x.firstLost(), 3);
        x.dike(0, 9);
        x.year(4);
        checks.due(21, "in year 7, dry", x.firstLost(), 7);
        for (int c = 0; c < 5; c++) x.cell(c, 9, 10, 0);
        checks.due(21, "the last alone", x.firstLost(), 7);
        x.cell(5, 9, 10, 0);
        checks.due(21, "none", x.firstLost(), TideTreaty.NONE);
    }

    /** "the greatest PRICE (0 .. 20) at which it is not BREACHED in these". */
    private static void priceByBells() {
        for (int bells : new int[] {0, 1, 19, 20, 21, 999}) {
            checks.due(22, "offer(0, 0, 1, 0), bells " + bells, idle(bells).offer(0, 0, 1, 0), Math.min(bells, 20));
        }
    }

    private static void priceByYears() {
        for (int m = 1; m <= 12; m++) {
            checks.due(22, "bells " + 20 * m, idle(20 * m).offer(0, 0, m, 0), 20);
            checks.due(22, "bells " + (20 * m - 1), idle(20 * m - 1).offer(0, 0, m, 0), 19);
            checks.due(22, "bells " + 7 * m, idle(7 * m).offer(0, 0, m, 0), 7);
            checks.due(22, "bells " + m, idle(m).offer(0, 0, m, 0), 1);
            checks.due(22, "bells " + (m - 1), idle(m - 1).offer(0, 0, m, 0), 0);
        }
    }

    /** It comes as one more: by numbers the others are paid ahead of it. */
    private static void priceBehindOthers() {
        TideTreaty x = idle(20);
        x.treaty(0, 0, 0, 0, 99, 15);
        checks.due(22, "offer(0, 0, 1, 0)", x.offer(0, 0, 1, 0), 5);
        x.bells(14);
        checks.due(22, "offer(0, 0, 1, 0), the other is breached", x.offer(0, 0, 1, 0), 14);
        x.treaty(0, 0, 0, 5, 99, 15);
        checks.due(22, "offer(0, 0, 1, 0), another begins later", x.offer(0, 0, 1, 0), 14);
    }

    /** A dearer one may be kept where a cheaper one is not, since another is BREACHED by it. */
    private static void priceIsTheGreatest() {
        TideTreaty x = idle(30);
        x.treaty(3, 0, 0, 0, 9, 9);
        // In year 1 20 are due of the other: 30 less p in year 0, and p more in year 1.
        checks.due(22, "offer(0, 0, 2, 0)", x.offer(0, 0, 2, 0), 15);
        x.bells(21);
        checks.due(22, "offer(0, 0, 2, 0)", x.offer(0, 0, 2, 0), 10);
    }

    /** "how many times fewer CELLS are FLOODED in these, all together, by it (at that PRICE) than without it". */
    private static void timesFewer() {
        TideTreaty x = new TideTreaty();
        x.coast(8);
        checks.due(22, "all cells, 12 years", x.offer(0, 7, 12, 1), 96);
        checks.due(22, "all cells, 1 year", x.offer(0, 7, 1, 1), 8);
        for (int c = 0; c < 8; c++) checks.due(22, "from cell " + c, x.offer(c, c, 3, 1), 3 * (8 - c));
        x.want(2, 9);
        checks.due(22, "not against a storm of 9", x.offer(0, 7, 3, 1), 16);
        x.want(2, 8);
        checks.due(22, "against a storm of 8", x.offer(0, 7, 3, 1), 24);
        x.want(0, 7);
        checks.due(22, "nor against 7 in a spring tide", x.offer(0, 7, 3, 1), 16);
        checks.due(22, "a dry coast", idle(50).offer(0, 0, 12, 1), 0);
        x.treaty(0, 0, 0, 0, 99, 0);
        x.want(0, 3);
        checks.due(22, "what another keeps dry", x.offer(0, 7, 12, 1), 0);
    }

    /** "(it may be below 0)": by its price another is BREACHED; -1 is an answer there, and no NONE. */
    private static void timesFewerBelowZero() {
        TideTreaty x = new TideTreaty();
        x.coast(2);
        x.cell(0, 2, 0, 0);
        x.cell(1, 2, 0, 0);
        // 20 are due in year 1: it is kept by 25 less 2 in two years, and it is not by 25 less 12.
        x.treaty(3, 0, 0, 0, 9, 9);
        x.bells(25);
        checks.due(22, "the price", x.offer(1, 1, 2, 0), 12);
        checks.due(22, "once more", x.offer(1, 1, 2, 1), -1);
        checks.due(22, "twice more", x.offer(1, 1, 3, 1), -2);
        // In year 3 the other would be breached without it too, and both cells flooded.
        checks.due(22, "thrice, and two fewer", x.offer(1, 1, 4, 1), -1);
        checks.due(22, "status(0)", x.status(0), 0);
        checks.due(22, "status(1)", x.status(1), 0);
    }

    /** "from this YEAR on for m YEARS". */
    private static void offeredFromThisYearOn() {
        TideTreaty x = new TideTreaty();
        x.coast(1);
        x.cell(0, 2, 0, 0);
        x.year(5);
        x.cell(0, 2, 0, 0);
        x.bells(30);
        checks.due(22, "offer(0, 0, 3, 0) in year 5", x.offer(0, 0, 3, 0), 10);
        checks.due(22, "offer(0, 0, 3, 1) in year 5", x.offer(0, 0, 3, 1), 3);
        checks.due(22, "count(4)", x.count(4), 0);
    }

    /** A TREATY told is of YEARS up to 99; one that is offered is of these m YEARS, whatever their numbers. */
    private static void offeredBehindYear99() {
        TideTreaty x = new TideTreaty();
        x.coast(1);
        for (int i = 0; i < 12; i++) x.year(9);
        x.cell(0, 2, 0, 0);
        x.bells(24);
        checks.due(22, "offer(0, 0, 12, 0) in year 108", x.offer(0, 0, 12, 0), 2);
        checks.due(22, "offer(0, 0, 12, 1) in year 108", x.offer(0, 0, 12, 1), 12);
        x = idle(5);
        for (int i = 0; i < 11; i++) x.year(8);
        x.year(6);
        checks.due(22, "over year 99", x.offer(0, 0, 12, 0), 0);
        checks.due(22, "up to year 98", x.offer(0, 0, 5, 0), 1);
    }

    /** "NO: -2000: there are 6 TREATIES": a sixth may be offered. */
    private static void sixthAndSeventhOffer() {
        TideTreaty x = idle(12);
        for (int i = 0; i < 5; i++) {
            x.treaty(0, 0, 0, 0, 9, 1);
            checks.due(22, "offer beside " + (i + 1), x.offer(0, 0, 1, 0), 11 - i);
        }
        x.treaty(0, 0, 0, 9, 0, 0);
        checks.due(22, "offer beside 6", x.offer(0, 0, 1, 0), -2000);
        checks.due(22, "offer beside 6", x.offer(0, 0, 1, 1), -2000);
        checks.due(22, "status(1)", x.status(1), 2);
        x.burn(0);
        checks.due(22, "offer beside none", x.offer(0, 0, 1, 0), 12);
    }

    private static void offerFromAboveTo() {
        TideTreaty x = new TideTreaty();
        for (int from = 1; from < 6; from++) {
            checks.due(22, "offer(" + from + ", " + (from - 1) + ", 1, 0)", x.offer(from, from - 1, 1, 0), -1000);
            checks.due(22, "offer(" + from + ", " + from + ", 1, 0)", x.offer(from, from, 1, 0), 20);
        }
        checks.due(22, "status(0)", x.status(0), 5);
    }

    /** "the fewest feet, of like ones the first CELL": none where none is needed. */
    private static void noFeet() {
        TideTreaty x = new TideTreaty();
        x.dike(0, 9);
        checks.due(23, "all dry: feet", x.cheapest(63, 12, 0), 0);
        checks.due(23, "all dry: the cell", x.cheapest(63, 12, 1), 0);
        x.dike(0, 0);
        checks.due(23, "none told: feet", x.cheapest(0, 12, 0), 0);
        checks.due(23, "none told: the cell", x.cheapest(0, 12, 1), 0);
        x.cell(3, 9, 10, 0);
        checks.due(23, "told behind a high one: feet", x.cheapest(48, 12, 0), 0);
        checks.due(23, "told behind a high one: the cell", x.cheapest(48, 12, 1), 0);
    }

    /** "one DIKE made higher (9 feet at most)". */
    private static void nineFeetAtMost() {
        for (int dike = 0; dike <= 9; dike++) {
            TideTreaty x = new TideTreaty();
            x.coast(1);
            x.dike(0, dike);
            x.want(0, 9);
            checks.due(23, "11 at 2 and 9, dike " + dike, x.cheapest(1, 1, 0), 9 - dike);
            checks.due(23, "the cell", x.cheapest(1, 1, 1), 0);
            x.want(0, 10);
            checks.due(23, "12 over 2 and 9, dike " + dike, x.cheapest(1, 1, 0), TideTreaty.NONE);
            checks.due(23, "the cell", x.cheapest(1, 1, 1), TideTreaty.NONE);
        }
    }

    private static void firstCellOfLikeOnes() {
        TideTreaty x = new TideTreaty();
        for (int c = 0; c < 6; c++) {
            checks.due(23, "told " + c + ": feet", x.cheapest(1 << c, 1, 0), 3);
            checks.due(23, "told " + c + ": the cell", x.cheapest(1 << c, 1, 1), 0);
        }
        x.cell(0, 0, 10, 0);
        x.cell(1, 1, 10, 0);
        checks.due(23, "told 5: the cell", x.cheapest(32, 1, 1), 2);
    }

    private static void fewestFeetWhereverTheyLie() {
        TideTreaty x = new TideTreaty();
        x.coast(8);
        x.cell(7, 4, 10, 0);
        checks.due(23, "told 7: feet", x.cheapest(128, 1, 0), 1);
        checks.due(23, "told 7: the cell", x.cheapest(128, 1, 1), 7);
        checks.due(23, "told 7 and 6: feet", x.cheapest(192, 1, 0), 3);
        checks.due(23, "told 7 and 6: the cell", x.cheapest(192, 1, 1), 0);
        x.dike(6, 2);
        checks.due(23, "told 7 and 6: feet", x.cheapest(192, 1, 0), 1);
        checks.due(23, "told 7 and 6: the cell", x.cheapest(192, 1, 1), 6);
        checks.due(23, "told all: feet", x.cheapest(255, 1, 0), 3);
    }

    /** A foot goes with each flood: 3 feet at CELL 0 would hold in YEAR 1, had YEAR 0 left them. */
    private static void feetThatFloodsTake() {
        TideTreaty x = new TideTreaty();
        x.coast(2);
        x.moon(9);
        x.cell(1, 0, 10, 0);
        x.want(0, 8);
        x.want(1, 5);
        x.treaty(2, 1, 1, 0, 1, 0);
        checks.due(23, "feet", x.cheapest(2, 2, 0), 4);
        checks.due(23, "the cell", x.cheapest(2, 2, 1), 0);
    }

    /** "in the next m YEARS (1 .. 12)": the m-th is one of them, the next is not. */
    private static void inTheNextYears() {
        for (int m = 1; m <= 12; m++) {
            TideTreaty x = new TideTreaty();
            x.coast(1);
            x.cell(0, 8, 10, 0);
            if (m > 8) x.year(8);
            int ahead = m > 8 ? m - 8 : m;
            x.want((m - 1) % 8, 15);
            x.moon(9);
            int storm = x.storm(m - 1);
            checks.due(23, m + ": feet", x.cheapest(1, ahead, 0), storm - 8);
            if (ahead > 1) checks.due(23, m + ": a year less", x.cheapest(1, ahead - 1, 0), 0);
        }
        TideTreaty x = new TideTreaty();
        x.coast(1);
        x.treaty(0, 0, 0, 0, 11, 0);
        checks.due(23, "11 years guarded", x.cheapest(1, 11, 0), 0);
        checks.due(23, "the 12th is not", x.cheapest(1, 12, 0), 1);
    }

    /** "all as it is told": TREATIES guard, and are BREACHED. */
    private static void dryByTreaty() {
        TideTreaty x = new TideTreaty();
        x.treaty(0, 2, 2, 0, 99, 20);
        checks.due(23, "paid twice: feet", x.cheapest(4, 2, 0), 0);
        x.bells(20);
        // The four cells from 2 on yield 4 in year 0: too few in year 1.
        checks.due(23, "paid once: feet", x.cheapest(4, 1, 0), 0);
        checks.due(23, "paid once: feet", x.cheapest(4, 2, 0), 1);
        checks.due(23, "paid once: the cell", x.cheapest(4, 2, 1), 2);
    }
}
