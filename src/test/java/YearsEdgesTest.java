/** Promises 13 to 19, sentence by sentence: what a YEAR is, what is undone, what is asked of this YEAR, at the edges. */
public final class YearsEdgesTest {
    /** By KIND: against how high a STORM it holds, in spring tides and else. */
    private static final int[] HOLDS_IN_SPRING = {8, 11, 15, 8, 11, 4}, HOLDS_ELSE = {8, 11, 8, 8, 11, 4};
    private static final Checks checks = new Checks();

    public static void main(String[] args) {
        stormOfEveryYear();
        stormByEachMoon();
        oneOfItsYears();
        holdsAgainstTheStorm();
        whatItCosts();
        justSoManyBells();
        byNumbers();
        breachedFromNowOn();
        notOfTheYearNotDue();
        yieldsComeBehindDues();
        waterIsHigher();
        waterGoesOnFromFloodedAlone();
        dikesAFootLower();
        worthByTen();
        bellsAtMost999();
        lostAtThree();
        lostYieldsNothing();
        waterGoesAsEver();
        yearsOfACall();
        theYear900();
        undoneExactly();
        sixAtMost();
        undoneAndRunAgain();
        undoLeavesWhatNoYearChanges();
        askedOfThisYear();
        checks.finish();
    }

    /** One CELL that nothing comes into and that yields nothing. */
    private static TideTreaty idle(int bells) {
        TideTreaty x = new TideTreaty();
        x.coast(1);
        x.cell(0, 9, 0, 0);
        x.bells(bells);
        return x;
    }

    /** "the WANT y by 8 left over"; "STORM of a YEAR (0 .. 999)". */
    private static void stormOfEveryYear() {
        for (int from = 0; from < 1000; from += 250) {
            TideTreaty x = new TideTreaty();
            x.moon(7);
            for (int k = 0; k < 8; k++) x.want(k, 15 - 2 * k);
            for (int y = from; y < from + 250; y++) {
                checks.due(17, "storm(" + y + ")", x.storm(y), 15 - 2 * (y % 8) + (y % 7 == 0 ? 2 : 0));
            }
        }
    }

    /** "in a YEAR that is a multiple of MOON 2 more (a spring tide)": YEAR 0 is one of each. */
    private static void stormByEachMoon() {
        for (int moon = 1; moon <= 9; moon++) {
            TideTreaty x = new TideTreaty();
            x.moon(moon);
            x.want(0, 15);
            x.want(7, 0);
            checks.due(17, "storm(0)", x.storm(0), 17);
            for (int y = 990; y < 1000; y++) {
                int want = y % 8 == 0 ? 15 : y % 8 == 7 ? 0 : 3;
                checks.due(17, "moon " + moon + ": storm(" + y + ")", x.storm(y), want + (y % moon == 0 ? 2 : 0));
            }
            checks.due(17, "storm(1000)", x.storm(1000), TideTreaty.BAD);
        }
    }

    /** "from a YEAR on till a YEAR (not in it)": GUARDED, paid and not BREACHED in these alone. */
    private static void oneOfItsYears() {
        TideTreaty x = idle(100);
        x.treaty(0, 0, 0, 3, 5, 10);
        int[] guarded = {0, 0, 0, 1, 1, 0, 0};
        int[] bells = {100, 100, 100, 90, 80, 80, 80};
        for (int y = 0; y < 7; y++) {
            checks.due(18, "guarded() in year " + y, x.guarded(), guarded[y]);
            checks.due(13, "year(1) in year " + y, x.year(1), bells[y]);
        }
    }

    /** "it holds against the STORM": "against how high a STORM (no higher)". */
    private static void holdsAgainstTheStorm() {
        for (int kind = 0; kind < 6; kind++) {
            TideTreaty x = new TideTreaty();
            x.moon(9);
            x.treaty(kind, 0, 5, 0, 99, 0);
            int most = HOLDS_IN_SPRING[kind];
            checks.due(16, "kind " + kind + ": about(0, 2) in a spring tide", x.about(0, 2), most);
            holdsAt(x, kind, 0, most - 2, most);
            x.year(1);
            most = HOLDS_ELSE[kind];
            checks.due(16, "kind " + kind + ": about(0, 2) in none", x.about(0, 2), most);
            holdsAt(x, kind, 1, most, most);
        }
    }

    private static void holdsAt(TideTreaty x, int kind, int k, int want, int storm) {
        x.want(k, want);
        checks.due(18, "kind " + kind + ": guarded() against " + storm, x.guarded(), 63);
        checks.due(19, "kind " + kind + ": wet() against " + storm, x.wet(), 0);
        x.want(k, want + 1);
        checks.due(18, "kind " + kind + ": guarded() against " + (storm + 1), x.guarded(), 0);
        checks.due(19, "kind " + kind + ": wet() against " + (storm + 1), x.wet(), 63);
        x.want(k, 0);
        checks.due(18, "kind " + kind + ": guarded() against little", x.guarded(), 63);
        x.want(k, 15);
        checks.due(18, "kind " + kind + ": guarded() against most", x.guarded(), 0);
        x.want(k, want);
    }

    /** "what it costs": PRICE; as PLAIN; as PLAIN; 1 more; twice OATH; half of ARREARS (cut up). */
    private static void whatItCosts() {
        for (int price = 0; price <= 20; price++) {
            TideTreaty x = new TideTreaty();
            int[] costs = {price, price, price, price + 1, 2 * price, price / 2 + 1};
            for (int kind = 0; kind < 6; kind++) {
                x.treaty(kind, 0, 0, 0, 1, price);
                checks.due(16, "kind " + kind + ", price " + price, x.about(kind, 1), costs[kind]);
            }
        }
    }

    /** What is due of a KIND at a PRICE, by whether the YEAR is odd. */
    private static int due(int kind, int price, int odd) {
        int[] inOdd = {price, price, price, 2 * price + 2, 2 * price, price / 2 * 2 + 2};
        boolean arrears = kind == 3 || kind == 5;
        return odd == 0 && arrears ? 0 : inOdd[kind];
    }

    /** "what is due is paid, if there are so many BELLS; else it is BREACHED". */
    private static void justSoManyBells() {
        for (int kind = 0; kind < 6; kind++) {
            for (int price : new int[] {0, 1, 2, 19, 20}) {
                for (int odd = 0; odd < 2; odd++) {
                    int due = due(kind, price, odd);
                    paid(kind, price, odd, due, 0, 0);
                    paid(kind, price, odd, due + 1, 1, 0);
                    if (due > 0) paid(kind, price, odd, due - 1, due - 1, 1);
                }
            }
        }
    }

    private static void paid(int kind, int price, int year, int bells, int left, int breached) {
        TideTreaty x = idle(bells);
        if (year > 0) x.year(year);
        x.treaty(kind, 0, 0, 0, 99, price);
        String told = "kind " + kind + ", price " + price + ", year " + year + ", bells " + bells;
        checks.due(13, told, x.year(1), left);
        checks.due(16, "breached: " + told, x.about(0, 3), breached);
    }

    /** "(a) by numbers": the first that comes is paid first; one that is BREACHED leaves its BELLS to the next. */
    private static void byNumbers() {
        int[][] prices = {{10, 10, 10}, {20, 10, 5}, {15, 15, 1}, {5, 20, 15}, {0, 20, 1}};
        int[] bells = {20, 15, 15, 20, 19};
        int[] left = {0, 0, 0, 0, 18};
        int[] breached = {4, 1, 6, 2, 2};
        for (int i = 0; i < 5; i++) {
            TideTreaty x = idle(bells[i]);
            for (int price : prices[i]) x.treaty(0, 0, 0, 0, 9, price);
            checks.due(13, "case " + i + ": year(1)", x.year(1), left[i]);
            checks.due(13, "case " + i + ": breached", x.then(0, 4), breached[i]);
        }
        // All six: 5 and 4 and 3 and 2 and 1 are paid of 15, the last is not.
        TideTreaty x = idle(15);
        for (int i = 0; i < 5; i++) x.treaty(0, 0, 0, 0, 9, 5 - i);
        x.treaty(0, 0, 0, 0, 9, 1);
        checks.due(13, "six: year(1)", x.year(1), 0);
        checks.due(13, "six: breached", x.then(0, 4), 32);
    }

    /** "else it is BREACHED from now on": in the YEAR itself, and in all that come. */
    private static void breachedFromNowOn() {
        TideTreaty x = new TideTreaty();
        x.coast(1);
        x.treaty(0, 0, 0, 0, 9, 20);
        x.bells(19);
        checks.due(18, "guarded() ahead of it", x.guarded(), 1);
        x.year(1);
        checks.due(13, "flooded in that year", x.of(0, 4), 1);
        x.bells(999);
        checks.due(18, "guarded() behind it", x.guarded(), 0);
        checks.due(19, "wet() behind it", x.wet(), 1);
        checks.due(13, "nothing is paid any more", x.year(1), 999);
        checks.due(16, "about(0, 3)", x.about(0, 3), 1);
        x.year(9);
        checks.due(16, "about(0, 3), behind its years", x.about(0, 3), 1);
        x.treaty(0, 0, 0, 0, 99, 20);
        checks.due(16, "another is not", x.about(1, 3), 0);
        checks.due(18, "guarded() by another", x.guarded(), 1);
    }

    /** "for each TREATY of which it is one of the YEARS". */
    private static void notOfTheYearNotDue() {
        TideTreaty x = idle(0);
        x.treaty(0, 0, 0, 2, 3, 20);
        x.treaty(3, 0, 0, 0, 1, 20);
        x.year(2);
        checks.due(13, "then(0, 4), none yet", x.then(0, 4), 0);
        x.year(1);
        checks.due(13, "then(0, 4), in year 2", x.then(0, 4), 1);
        x = idle(0);
        x.treaty(0, 0, 0, 0, 1, 0);
        x.treaty(0, 0, 0, 1, 1, 20);
        x.year(3);
        checks.due(13, "then(0, 4), for nothing", x.then(0, 4), 0);
    }

    /** (a) is ahead of (d): what a YEAR yields pays nothing of what is due in it. */
    private static void yieldsComeBehindDues() {
        TideTreaty x = Checks.dry();
        x.bells(0);
        x.treaty(0, 0, 5, 0, 9, 1);
        checks.due(13, "year(1)", x.year(1), 14);
        checks.due(13, "about(0, 3)", x.about(0, 3), 1);
        x = Checks.dry();
        x.bells(999);
        x.treaty(0, 0, 5, 0, 9, 20);
        checks.due(13, "year(1), 979 and 14", x.year(1), 993);
    }

    private static void wetDue(int height, int dike, int want, int wet) {
        TideTreaty x = new TideTreaty();
        x.coast(1);
        x.moon(9);
        x.year(1);
        x.cell(0, height, 10, 0);
        x.dike(0, dike);
        x.want(1, want);
        checks.due(19, "height " + height + ", dike " + dike + ", storm " + want, x.wet(), wet);
        x.year(1);
        checks.due(13, "flooded", x.of(0, 4), wet);
    }

    /** "it comes into a CELL, if it is higher than HEIGHT and DIKE of it together". */
    private static void waterIsHigher() {
        wetDue(0, 0, 0, 0);
        wetDue(0, 0, 1, 1);
        wetDue(0, 9, 9, 0);
        wetDue(0, 9, 10, 1);
        wetDue(9, 0, 9, 0);
        wetDue(9, 0, 10, 1);
        wetDue(9, 6, 15, 0);
        wetDue(9, 5, 15, 1);
        wetDue(9, 9, 15, 0);
        // The highest STORM is 17, by a spring tide.
        TideTreaty x = new TideTreaty();
        x.coast(1);
        x.cell(0, 9, 10, 0);
        x.want(0, 15);
        x.dike(0, 8);
        checks.due(19, "17 against 17", x.wet(), 0);
        x.dike(0, 7);
        checks.due(19, "17 against 16", x.wet(), 1);
    }

    /** "from CELL 0 on"; "it goes on from a CELL that it came into alone". */
    private static void waterGoesOnFromFloodedAlone() {
        for (int stop = 0; stop < 8; stop++) {
            TideTreaty x = new TideTreaty();
            x.coast(8);
            x.cell(stop, 5, 10, 0);
            checks.due(19, "stopped by a height at " + stop, x.wet(), (1 << stop) - 1);
            x.cell(stop, 2, 10, 0);
            x.dike(stop, 3);
            checks.due(19, "stopped by a dike at " + stop, x.wet(), (1 << stop) - 1);
            x.dike(stop, 2);
            checks.due(19, "not stopped at " + stop, x.wet(), 255);
            x.treaty(0, stop, stop, 0, 1, 0);
            checks.due(19, "stopped by a treaty at " + stop, x.wet(), (1 << stop) - 1);
            x.year(1);
            for (int c = 0; c < 8; c++) checks.due(13, "flooded, cell " + c, x.of(c, 4), c < stop ? 1 : 0);
        }
    }

    /** "(c) a DIKE of a FLOODED CELL is a foot lower (if there is any)". */
    private static void dikesAFootLower() {
        TideTreaty x = new TideTreaty();
        x.coast(5);
        int[] dikes = {9, 1, 0, 9, 4};
        // A storm of 12 in year 0 stands at cell 3, of height 3 and 9 feet; one of 15 in year 1 goes over it.
        x.cell(3, 3, 10, 0);
        for (int c = 0; c < 5; c++) x.dike(c, dikes[c]);
        x.want(0, 10);
        x.want(1, 15);
        x.year(1);
        int[] behind = {8, 0, 0, 9, 4};
        for (int c = 0; c < 5; c++) checks.due(13, "dike of " + c, x.of(c, 3), behind[c]);
        x.year(1);
        int[] later = {7, 0, 0, 8, 3};
        for (int c = 0; c < 5; c++) checks.due(13, "dike of " + c, x.of(c, 3), later[c]);
    }

    /** "(d) each CELL that is neither FLOODED nor LOST yields WORTH by 10 (cut) BELLS". */
    private static void worthByTen() {
        int[] worths = {0, 9, 10, 19, 20, 89, 90, 99};
        int[] yields = {0, 0, 1, 1, 2, 8, 9, 9};
        for (int i = 0; i < worths.length; i++) {
            TideTreaty x = idle(0);
            x.cell(0, 9, worths[i], 0);
            checks.due(13, "worth " + worths[i], x.year(1), yields[i]);
            x.cell(0, 0, worths[i], 0);
            x.bells(0);
            checks.due(13, "worth " + worths[i] + ", flooded", x.year(1), 0);
        }
        // Each for itself: two of 15 yield 2, not 3.
        TideTreaty x = new TideTreaty();
        x.coast(2);
        x.cell(0, 9, 15, 0);
        x.cell(1, 0, 15, 0);
        checks.due(13, "two of 15", x.year(1), 52);
    }

    /** "(999 at most)". */
    private static void bellsAtMost999() {
        int[] bells = {984, 985, 986, 999};
        int[] behind = {998, 999, 999, 999};
        for (int i = 0; i < 4; i++) {
            TideTreaty x = Checks.dry();
            x.bells(bells[i]);
            checks.due(13, bells[i] + " and 14", x.year(1), behind[i]);
            x.bells(bells[i]);
            checks.due(20, bells[i] + " and 14, then", x.then(1, 0), behind[i]);
        }
    }

    /** "A CELL FLOODED 3 times or more is LOST". */
    private static void lostAtThree() {
        TideTreaty x = new TideTreaty();
        x.coast(1);
        for (int times = 0; times < 6; times++) {
            checks.due(15, "of(0, 4)", x.of(0, 4), times);
            checks.due(15, "of(0, 5)", x.of(0, 5), times < 3 ? 0 : 1);
            checks.due(20, "then(0, 2)", x.then(0, 2), times < 3 ? 0 : 1);
            checks.due(20, "then(0, 3)", x.then(0, 3), times < 3 ? 10 : 0);
            checks.due(15, "of(0, 1), its worth as told", x.of(0, 1), 10);
            x.year(1);
        }
    }

    /** "its WORTH counts for nothing any more": no yield in a dry YEAR. */
    private static void lostYieldsNothing() {
        for (int times = 2; times <= 3; times++) {
            TideTreaty x = new TideTreaty();
            x.coast(1);
            x.cell(0, 2, 99, 0);
            x.year(times);
            x.dike(0, 9);
            checks.due(13, "year(1), flooded " + times + " times", x.year(1), times == 2 ? 59 : 50);
        }
    }

    /** "THE WATER goes as ever": into the LOST too, and on from them; their DIKES sink, TREATIES guard them. */
    private static void waterGoesAsEver() {
        TideTreaty x = new TideTreaty();
        x.coast(2);
        x.year(3);
        x.cell(1, 2, 10, 0);
        checks.due(19, "wet()", x.wet(), 3);
        x.dike(0, 1);
        x.want(3, 9);
        x.year(1);
        checks.due(13, "of(0, 4)", x.of(0, 4), 4);
        checks.due(13, "of(0, 3)", x.of(0, 3), 0);
        checks.due(13, "of(1, 4)", x.of(1, 4), 1);
        x.treaty(0, 0, 0, 0, 99, 0);
        checks.due(18, "guarded()", x.guarded(), 1);
        checks.due(19, "wet(), guarded", x.wet(), 0);
    }

    /** "n YEARS (1 .. 9), each of which may be undone: BELLS then." */
    private static void yearsOfACall() {
        for (int n = 1; n <= 9; n++) {
            TideTreaty x = Scenes.make(Scenes.ALL_FULL);
            TideTreaty y = Scenes.make(Scenes.ALL_FULL);
            int bells = 0;
            for (int i = 0; i < n; i++) bells = y.year(1);
            checks.due(13, "year(" + n + ")", x.year(n), bells);
            checks.due(13, "count(2)", x.count(2), bells);
            checks.due(13, "count(1)", x.count(1), 9 + n);
            checks.dueAll(13, "year(" + n + ") is as many of year(1)", Scenes.allOf(x), Scenes.allOf(y));
            TideTreaty fresh = new TideTreaty();
            fresh.year(n);
            checks.due(14, "count(6)", fresh.count(6), Math.min(n, 6));
        }
    }

    private static TideTreaty inYear(int year) {
        TideTreaty x = idle(0);
        for (int i = 0; i < year / 9; i++) x.year(9);
        if (year % 9 > 0) x.year(year % 9);
        return x;
    }

    /** "NO: the YEAR is above 900 already": from 900 itself nine more run. */
    private static void theYear900() {
        for (int year = 899; year <= 902; year++) {
            TideTreaty x = inYear(Math.min(year, 899));
            for (int i = 899; i < year; i++) x.year(1);
            boolean runs = year <= 900;
            int at = Math.min(year, 901);
            checks.due(13, "count(1)", x.count(1), at);
            checks.due(13, "year(9) in " + at, x.year(9), runs ? 0 : TideTreaty.NO);
            checks.due(13, "count(1)", x.count(1), runs ? year + 9 : 901);
        }
        TideTreaty x = inYear(900);
        x.year(9);
        checks.due(17, "storm(909)", x.storm(909), 3);
        checks.due(20, "then(30, 0) in 909", x.then(30, 0), 0);
        for (int i = 0; i < 6; i++) x.undo();
        checks.due(13, "year(1) in 903, undone", x.year(1), TideTreaty.NO);
    }

    /** "UNDO: all as ahead of the last YEAR". */
    private static void undoneExactly() {
        TideTreaty x = new TideTreaty();
        x.dike(0, 1);
        x.bells(25);
        // 25 less 16 and 5 of the cells behind the water are 14: in year 1 they are too few.
        x.treaty(0, 1, 1, 0, 9, 16);
        x.tide(0, 0, true);
        x.year(1);
        int[] ahead = {x.count(1), x.count(2), x.of(0, 3), x.of(0, 4), x.of(1, 4), x.about(0, 3), x.guarded()};
        x.year(1);
        checks.due(14, "breached by it", x.about(0, 3), 1);
        checks.due(14, "undo()", x.undo(), 1);
        int[] undone = {x.count(1), x.count(2), x.of(0, 3), x.of(0, 4), x.of(1, 4), x.about(0, 3), x.guarded()};
        for (int i = 0; i < ahead.length; i++) checks.due(14, "number " + i, undone[i], ahead[i]);
        checks.due(14, "count(4)", x.count(4), 1);
        checks.due(14, "count(5)", x.count(5), 1);
        x.undo();
        checks.due(14, "of(0, 3)", x.of(0, 3), 1);
        checks.due(14, "count(2)", x.count(2), 25);
    }

    /** "(6 at most ..)": the oldest of seven is gone; "NO: none may be". */
    private static void sixAtMost() {
        for (int years = 1; years <= 9; years++) {
            TideTreaty x = new TideTreaty();
            x.year(years);
            int many = Math.min(years, 6);
            for (int i = 1; i <= many; i++) {
                checks.due(14, "undo()", x.undo(), 1);
                checks.due(14, "count(1)", x.count(1), years - i);
                checks.due(14, "count(6)", x.count(6), many - i);
            }
            checks.due(14, "undo(), none left", x.undo(), TideTreaty.NO);
            checks.due(14, "status(1)", x.status(1), 1);
        }
    }

    private static void undoneAndRunAgain() {
        TideTreaty x = new TideTreaty();
        x.year(6);
        for (int i = 0; i < 4; i++) x.undo();
        x.year(5);
        checks.due(14, "count(6)", x.count(6), 6);
        checks.due(14, "count(1)", x.count(1), 7);
        for (int i = 0; i < 6; i++) x.undo();
        checks.due(14, "count(1)", x.count(1), 1);
        checks.due(14, "undo()", x.undo(), TideTreaty.NO);
        TideTreaty y = new TideTreaty();
        y.year(1);
        y.bells(50);
        checks.due(14, "as if run once", x.digest(), y.digest());
    }

    /** THE TEXT, IMAGES and STATUS are no part of a YEAR: what came to them behind it stays. */
    private static void undoLeavesWhatNoYearChanges() {
        TideTreaty x = new TideTreaty();
        x.type('c');
        x.year(2);
        x.type('o');
        x.image(0);
        x.coast(0);
        checks.due(14, "undo()", x.undo(), 1);
        checks.due(14, "bytes of the text", x.count(7), 2);
        checks.due(14, "refused as BAD", x.status(0), 1);
        checks.due(14, "the image is kept", x.from(0), 1);
        checks.due(14, "its year", x.count(1), 2);
        x.clear();
        x.undo();
        checks.due(14, "the text is empty still", x.count(7), 0);
    }

    /** "(as TREATIES are now)": what is not paid for yet guards. */
    private static void askedOfThisYear() {
        TideTreaty x = new TideTreaty();
        x.bells(0);
        x.treaty(0, 3, 5, 0, 9, 20);
        checks.due(18, "guarded()", x.guarded(), 56);
        checks.due(19, "wet()", x.wet(), 7);
        x.treaty(0, 4, 4, 0, 9, 0);
        checks.due(18, "guarded(), over one another", x.guarded(), 56);
        x.year(1);
        checks.due(18, "guarded(), by the second alone", x.guarded(), 16);
        checks.due(19, "wet(), by the second alone", x.wet(), 15);
    }
}
