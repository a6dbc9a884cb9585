/** Promises 1 to 9, sentence by sentence: what is told of a coast, at its edges. */
public final class CoastEdgesTest {
    private static final Checks checks = new Checks();

    public static void main(String[] args) {
        cellsByN();
        allAsAtFirst();
        nothingElseTold();
        coastLeavesWhatIsNotTold();
        cellIsNewThen();
        cellAnswersItsHeight();
        dikeOfEachCell();
        wantOfEachYear();
        moonOfEachLength();
        bellsAtBothEnds();
        treatyNumbersAsTheyCome();
        treatyOfNoYears();
        treatyOfOneCellAndOfAll();
        fromAboveTo();
        endsWithThisYear();
        endOfABreachedOne();
        tellingTheSameLeavesNoneToUndo();
        checks.finish();
    }

    /** "CELLS 0 to n less 1 (n 1 .. 8; 6 at first)"; "what n was". */
    private static void cellsByN() {
        TideTreaty x = new TideTreaty();
        int was = 6;
        for (int n = 1; n <= 8; n++) {
            checks.due(2, "coast(" + n + ")", x.coast(n), was);
            checks.due(2, "count(0)", x.count(0), n);
            checks.due(2, "the last cell", x.of(n - 1, 0), 2);
            checks.due(2, "a cell more", x.of(n, 0), TideTreaty.BAD);
            checks.due(2, "wet(), each of them", x.wet(), (1 << n) - 1);
            was = n;
        }
        for (int n = 8; n >= 1; n--) checks.due(2, "coast(" + n + ")", x.coast(n), n == 8 ? 8 : n + 1);
    }

    /** "n CELLS, all as at first": also those that a lesser coast had not, and that were told of in an older one. */
    private static void allAsAtFirst() {
        int[] first = {2, 10, 0, 0, 0, 0};
        for (int n = 1; n <= 8; n++) {
            TideTreaty x = new TideTreaty();
            x.coast(8);
            for (int c = 0; c < 8; c++) {
                x.cell(c, 0, 99, 2);
                x.dike(c, 1);
            }
            x.year(3);
            x.coast(1);
            x.coast(n);
            for (int c = 0; c < n; c++) {
                for (int what = 0; what < 6; what++) {
                    checks.due(2, n + " cells: of(" + c + ", " + what + ")", x.of(c, what), first[what]);
                }
            }
        }
    }

    /** "nothing else told". */
    private static void nothingElseTold() {
        TideTreaty x = new TideTreaty();
        for (int k = 0; k < 8; k++) x.want(k, 15 - k);
        x.moon(9);
        x.bells(999);
        for (int i = 0; i < 6; i++) x.treaty(i, 0, 5, 0, 99, 20);
        for (int i = 0; i < 6; i++) x.tide(i, i, true);
        x.year(7);
        x.coast(6);
        int[] counts = {6, 0, 50, 4, 0, 0, 0, 0};
        for (int what = 0; what < 8; what++) checks.due(2, "count(" + what + ")", x.count(what), counts[what]);
        for (int y = 0; y < 8; y++) checks.due(2, "storm(" + y + ")", x.storm(y), y % 4 == 0 ? 5 : 3);
        checks.due(2, "undo()", x.undo(), TideTreaty.NO);
        checks.due(2, "then(0, 4)", x.then(0, 4), 0);
        for (int i = 0; i < 6; i++) checks.due(2, "a treaty", x.treaty(0, 0, 0, 0, 1, 0), i);
        for (int i = 0; i < 6; i++) checks.due(2, "not breached", x.about(i, 3), 0);
        checks.due(2, "a tide", x.tide(0, 0, true), 1);
    }

    /** THE TEXT is typed, IMAGES are kept, STATUS is counted: none of them is told. */
    private static void coastLeavesWhatIsNotTold() {
        TideTreaty x = new TideTreaty();
        Checks.type(x, "coast 3;");
        x.bells(7);
        x.image(0);
        x.undo();
        x.coast(5);
        checks.due(2, "read()", x.read(), 1);
        checks.due(2, "status(1)", x.status(1), 1);
        checks.due(2, "from(0)", x.from(0), 1);
        checks.due(2, "count(2)", x.count(2), 7);
    }

    /** "(it is new then)"; "A CELL FLOODED 3 times or more (since it was told last) is LOST". */
    private static void cellIsNewThen() {
        TideTreaty x = new TideTreaty();
        x.year(2);
        checks.due(3, "flooded twice", x.of(0, 4), 2);
        x.cell(0, 2, 10, 0);
        checks.due(3, "told", x.of(0, 4), 0);
        checks.due(3, "another is not told", x.of(1, 4), 2);
        x.year(2);
        checks.due(3, "flooded twice since", x.of(0, 4), 2);
        checks.due(3, "not lost", x.of(0, 5), 0);
        checks.due(3, "another is lost", x.of(1, 5), 1);
        x.year(1);
        checks.due(3, "lost", x.of(0, 5), 1);
        x.cell(0, 2, 10, 0);
        checks.due(3, "not lost any more", x.of(0, 5), 0);
        x.dike(1, 5);
        checks.due(3, "a dike makes no cell new", x.of(1, 5), 1);
        checks.due(3, "its worth counts again", x.then(0, 3), 10);
    }

    /** "its HEIGHT as it was". */
    private static void cellAnswersItsHeight() {
        TideTreaty x = new TideTreaty();
        int was = 2;
        for (int height = 0; height <= 9; height++) {
            checks.due(3, "cell(5, " + height + ", 99, 2)", x.cell(5, height, 99, 2), was);
            was = height;
        }
        checks.due(3, "refused", x.cell(5, 10, 99, 2), TideTreaty.BAD);
        checks.due(3, "cell(5, 0, 0, 0)", x.cell(5, 0, 0, 0), 9);
        checks.due(3, "another's height", x.of(4, 0), 2);
        for (int town = 0; town < 3; town++) {
            x.cell(0, 0, 0, town);
            checks.due(3, "its town", x.of(0, 2), town);
        }
    }

    /** "A DIKE: what it was." */
    private static void dikeOfEachCell() {
        TideTreaty x = new TideTreaty();
        x.coast(8);
        for (int c = 0; c < 8; c++) checks.due(4, "dike(" + c + ", 9)", x.dike(c, 9), 0);
        for (int c = 0; c < 8; c++) checks.due(4, "dike(" + c + ", " + c + ")", x.dike(c, c), 9);
        for (int c = 0; c < 8; c++) checks.due(4, "of(" + c + ", 3)", x.of(c, 3), c);
        // A foot that a flood takes is what the next call answers without.
        x.year(1);
        checks.due(4, "dike(1, 0)", x.dike(1, 0), 0);
        checks.due(4, "dike(7, 0)", x.dike(7, 0), 7);
    }

    /** "A WANT: what it was." */
    private static void wantOfEachYear() {
        TideTreaty x = new TideTreaty();
        x.moon(9);
        for (int k = 0; k < 8; k++) checks.due(5, "want(" + k + ", 15)", x.want(k, 15), 3);
        for (int k = 0; k < 8; k++) checks.due(5, "want(" + k + ", 0)", x.want(k, 0), 15);
        for (int k = 0; k < 8; k++) {
            x.want(k, 15);
            for (int y = 1; y < 9; y++) checks.due(5, "storm(" + y + ")", x.storm(y), y % 8 == k ? 15 : 0);
            x.want(k, 0);
        }
    }

    /** "MOON: what it was." */
    private static void moonOfEachLength() {
        TideTreaty x = new TideTreaty();
        int was = 4;
        for (int n = 1; n <= 9; n++) {
            checks.due(6, "moon(" + n + ")", x.moon(n), was);
            for (int y = 0; y < 20; y++) checks.due(6, "moon " + n + ": storm(" + y + ")", x.storm(y), y % n == 0 ? 5 : 3);
            was = n;
        }
    }

    /** "BELLS are n (0 .. 999): what they were." */
    private static void bellsAtBothEnds() {
        TideTreaty x = Checks.dry();
        x.year(1);
        checks.due(7, "bells(0)", x.bells(0), 64);
        checks.due(7, "bells(999)", x.bells(999), 0);
        checks.due(7, "bells(1000)", x.bells(1000), TideTreaty.BAD);
        checks.due(7, "bells(0)", x.bells(0), 999);
        checks.due(7, "bells(-1)", x.bells(-1), TideTreaty.BAD);
        checks.due(7, "count(2)", x.count(2), 0);
    }

    /** "TREATIES 0 .. 5, as they come"; "its number"; "FULL: 6". */
    private static void treatyNumbersAsTheyCome() {
        TideTreaty x = new TideTreaty();
        for (int i = 0; i < 6; i++) {
            checks.due(8, "treaty " + i, x.treaty(5 - i, 0, 5, 0, 90 + i, 20 - i), i);
            checks.due(8, "count(4)", x.count(4), i + 1);
        }
        checks.due(8, "a seventh", x.treaty(0, 0, 5, 0, 1, 0), TideTreaty.FULL);
        for (int i = 0; i < 6; i++) {
            checks.due(8, "its kind", x.about(i, 0), 5 - i);
            checks.due(8, "its till", x.about(i, 4), 90 + i);
        }
        x.end(0);
        checks.due(8, "one that has ended counts too", x.treaty(0, 0, 5, 0, 1, 0), TideTreaty.FULL);
        x.burn(0);
        checks.due(8, "behind burn(0)", x.treaty(0, 0, 5, 0, 1, 0), 0);
    }

    /** "0 .. 99 each; of no YEARS, if that is no later". */
    private static void treatyOfNoYears() {
        TideTreaty x = new TideTreaty();
        x.bells(0);
        x.treaty(0, 0, 5, 0, 0, 20);
        x.treaty(0, 0, 5, 1, 0, 20);
        x.treaty(0, 0, 5, 99, 0, 20);
        x.treaty(0, 0, 5, 99, 99, 20);
        checks.due(8, "guarded()", x.guarded(), 0);
        checks.due(8, "then(30, 4), nothing is due", x.then(30, 4), 0);
        checks.due(8, "clashes(NONE)", x.clashes(-1), 0);
        x.treaty(0, 0, 5, 0, 1, 0);
        checks.due(8, "guarded(), of one year", x.guarded(), 63);
        x.year(1);
        checks.due(8, "guarded(), behind it", x.guarded(), 0);
        // The last year that a treaty may be of is 98.
        x.burn(0);
        x.treaty(0, 0, 5, 98, 99, 0);
        for (int i = 0; i < 10; i++) x.year(9);
        x.year(6);
        checks.due(8, "guarded() in 97", x.guarded(), 0);
        x.year(1);
        checks.due(8, "guarded() in 98", x.guarded(), 63);
        x.year(1);
        checks.due(8, "guarded() in 99", x.guarded(), 0);
    }

    /** "CELLS from .. to (to is in it)". */
    private static void treatyOfOneCellAndOfAll() {
        for (int from = 0; from < 8; from++) {
            for (int to = from; to < 8; to++) {
                TideTreaty x = new TideTreaty();
                x.coast(8);
                x.treaty(0, from, to, 0, 1, 0);
                int bits = 0;
                for (int c = from; c <= to; c++) bits |= 1 << c;
                checks.due(8, "guarded() of " + from + " .. " + to, x.guarded(), bits);
                checks.due(8, "wet() of " + from + " .. " + to, x.wet(), (1 << from) - 1);
            }
        }
    }

    /** "BAD: from above to, too". */
    private static void fromAboveTo() {
        TideTreaty x = new TideTreaty();
        for (int from = 0; from < 6; from++) {
            for (int to = 0; to < from; to++) {
                checks.due(8, "treaty of " + from + " .. " + to, x.treaty(0, from, to, 0, 1, 0), TideTreaty.BAD);
            }
        }
        checks.due(8, "count(4)", x.count(4), 0);
        checks.due(8, "status(0)", x.status(0), 15);
    }

    private static TideTreaty treatyOf3To6(int year) {
        TideTreaty x = Checks.dry();
        x.treaty(0, 0, 5, 3, 6, 2);
        x.year(year);
        return x;
    }

    /** "A TREATY ends with this YEAR (till: the YEAR as it is): 1 .. NO: it has ended, or begins later." */
    private static void endsWithThisYear() {
        int[] answers = {TideTreaty.NO, 1, 1, 1, TideTreaty.NO};
        int[] tills = {6, 3, 4, 5, 6};
        for (int i = 0; i < 5; i++) {
            TideTreaty x = treatyOf3To6(2 + i);
            checks.due(9, "end(0) in year " + (2 + i), x.end(0), answers[i]);
            checks.due(9, "till", x.about(0, 4), tills[i]);
            checks.due(9, "status(1)", x.status(1), answers[i] == 1 ? 0 : 1);
            if (answers[i] == 1) checks.due(9, "guarded()", x.guarded(), 0);
        }
        TideTreaty x = treatyOf3To6(4);
        int bells = x.count(2);
        x.end(0);
        checks.due(9, "nothing is due any more", x.year(1), bells + 14);
        checks.due(9, "count(4), it is still one", x.count(4), 1);
    }

    private static void endOfABreachedOne() {
        TideTreaty x = Checks.dry();
        x.treaty(0, 0, 5, 0, 9, 20);
        x.bells(0);
        x.year(1);
        checks.due(9, "breached", x.about(0, 3), 1);
        checks.due(9, "end(0)", x.end(0), 1);
        checks.due(9, "till", x.about(0, 4), 1);
        checks.due(9, "breached still", x.about(0, 3), 1);
    }

    /** "what is told leaves none": also where nothing is another by it; a refused call leaves all. */
    private static void tellingTheSameLeavesNoneToUndo() {
        TideTreaty x = new TideTreaty();
        x.year(6);
        x.coast(0);
        x.cell(0, 2, 10, 3);
        x.dike(0, 10);
        x.want(0, 16);
        x.moon(0);
        x.bells(1000);
        x.treaty(0, 1, 0, 0, 1, 0);
        x.end(0);
        x.tide(0, 6, true);
        x.burn(2);
        x.read();
        checks.due(14, "count(6) behind refused calls", x.count(6), 6);
        x.burn(0);
        checks.due(14, "count(6) behind burn(0), of none", x.count(6), 0);
        x.year(1);
        x.want(0, 3);
        checks.due(14, "count(6) behind want(0, 3), as it was", x.count(6), 0);
    }
}
