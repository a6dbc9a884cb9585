/** Promises 13 to 19: years run, undone, and what stands in them. */
public final class YearsTest {
    private static final int HUGE = Integer.MAX_VALUE;
    private static final Checks checks = new Checks();

    public static void main(String[] args) {
        yields();
        water();
        breaches();
        duesByKind();
        yearEdges();
        undo();
        of();
        about();
        storm();
        guarded();
        wet();
        checks.finish();
    }

    private static void yields() {
        TideTreaty x = Checks.dry();
        checks.due(13, "year(1)", x.year(1), 50 + 14);
        checks.due(13, "year(2)", x.year(2), 64 + 28);
        x.bells(990);
        checks.due(13, "year(1), 999 at most", x.year(1), 999);
        x = new TideTreaty();
        checks.due(13, "year(1), all flooded", x.year(1), 50);
        // Cell 0 is lost in year 2; a storm of 0 leaves it dry in year 3, and the other five yield.
        x = new TideTreaty();
        x.dike(1, 9);
        x.want(3, 0);
        checks.due(13, "year(3)", x.year(3), 50 + 15);
        checks.due(13, "of(0, 5)", x.of(0, 5), 1);
        checks.due(13, "year(1), lost", x.year(1), 65 + 5);
        checks.due(13, "of(0, 4)", x.of(0, 4), 3);
        x.year(1);
        checks.due(13, "of(0, 4), flooded though lost", x.of(0, 4), 4);
    }

    private static void water() {
        // Heights 2, 3, 4, 2 against 5 in year 0, then 3: water that a cell keeps out goes no further.
        TideTreaty x = new TideTreaty();
        x.coast(5);
        x.cell(1, 3, 10, 0);
        x.cell(2, 4, 10, 0);
        x.dike(3, 4);
        x.dike(1, 1);
        x.dike(0, 1);
        x.year(1);
        int[] flooded = {1, 1, 1, 0, 0};
        int[] dikes = {0, 0, 0, 4, 0};
        for (int c = 0; c < 5; c++) checks.due(13, "of(" + c + ", 4)", x.of(c, 4), flooded[c]);
        for (int c = 0; c < 5; c++) checks.due(13, "of(" + c + ", 3)", x.of(c, 3), dikes[c]);
        x.year(1);
        checks.due(13, "of(0, 4)", x.of(0, 4), 2);
        checks.due(13, "of(1, 4)", x.of(1, 4), 1);
    }

    private static void breaches() {
        TideTreaty x = Checks.dry();
        x.treaty(0, 0, 5, 0, 99, 20);
        x.treaty(0, 0, 5, 0, 99, 10);
        x.bells(30);
        checks.due(13, "year(1), all paid", x.year(1), 14);
        checks.due(13, "about(0, 3)", x.about(0, 3), 0);
        checks.due(13, "year(1), the second alone", x.year(1), 14 - 10 + 14);
        checks.due(13, "about(0, 3)", x.about(0, 3), 1);
        checks.due(13, "about(1, 3)", x.about(1, 3), 0);
        x.bells(500);
        checks.due(13, "year(1), breached for good", x.year(1), 500 - 10 + 14);
        checks.due(13, "then(0, 4)", x.then(0, 4), 1);
        // What is breached in a year guards in it no more.
        x = new TideTreaty();
        x.treaty(0, 0, 5, 0, 9, 20);
        x.bells(19);
        checks.due(13, "wet()", x.wet(), 0);
        checks.due(13, "year(1)", x.year(1), 19);
        checks.due(13, "of(0, 4)", x.of(0, 4), 1);
    }

    /** BELLS behind each of four years from 500 on, under one treaty of years 1 and 2. */
    private static void dues(int kind, int price, int inYear1, int inYear2) {
        TideTreaty x = Checks.dry();
        x.bells(500);
        x.treaty(kind, 0, 5, 1, 3, price);
        int due = 500 + 14;
        checks.due(13, "kind " + kind + " year 0", x.year(1), due);
        due += 14 - inYear1;
        checks.due(13, "kind " + kind + " year 1", x.year(1), due);
        due += 14 - inYear2;
        checks.due(13, "kind " + kind + " year 2", x.year(1), due);
        checks.due(13, "kind " + kind + " year 3", x.year(1), due + 14);
    }

    private static void duesByKind() {
        dues(0, 7, 7, 7);
        dues(1, 7, 7, 7);
        dues(2, 7, 7, 7);
        dues(3, 7, 16, 0);
        dues(4, 7, 14, 14);
        dues(5, 7, 8, 0);
        dues(5, 8, 10, 0);
        dues(5, 0, 2, 0);
        dues(3, 0, 2, 0);
    }

    private static void yearEdges() {
        TideTreaty x = Checks.dry();
        for (int n : new int[] {0, 10, -1, HUGE}) checks.due(13, "year(" + n + ")", x.year(n), TideTreaty.BAD);
        for (int i = 0; i < 100; i++) x.year(9);
        checks.due(13, "count(1)", x.count(1), 900);
        x.year(1);
        checks.due(13, "year(1), in year 901", x.year(1), TideTreaty.NO);
        x.undo();
        checks.due(13, "year(9), in year 900", x.year(9), 999);
        checks.due(13, "year(1), in year 909", x.year(1), TideTreaty.NO);
        checks.due(13, "year(0), in year 909", x.year(0), TideTreaty.BAD);
        checks.due(13, "status(1)", x.status(1), 2);
        checks.due(13, "count(1)", x.count(1), 909);
        for (int i = 0; i < 6; i++) x.undo();
        checks.due(14, "count(1)", x.count(1), 903);
        checks.due(13, "year(1), in year 903", x.year(1), TideTreaty.NO);
    }

    private static void undo() {
        TideTreaty x = new TideTreaty();
        x.dike(0, 9);
        x.want(1, 15);
        x.treaty(0, 0, 0, 0, 99, 20);
        x.bells(30);
        long[] before = new long[9];
        for (int i = 0; i < 9; i++) {
            before[i] = x.digest();
            x.year(1);
            checks.due(14, "count(6)", x.count(6), Math.min(6, i + 1));
        }
        for (int i = 8; i >= 3; i--) {
            checks.due(14, "undo()", x.undo(), 1);
            checks.due(14, "count(1)", x.count(1), i);
            checks.due(14, "count(6)", x.count(6), i - 3);
        }
        checks.due(14, "undo(), six at most", x.undo(), TideTreaty.NO);
        checks.due(14, "status(1)", x.status(1), 1);
        x = new TideTreaty();
        x.bells(3);
        x.treaty(0, 0, 0, 1, 99, 20);
        long start = x.digest();
        x.year(3);
        checks.due(14, "about(0, 3)", x.about(0, 3), 1);
        x.dike(9, 9);
        for (int i = 0; i < 3; i++) checks.due(14, "undo(), a refused call leaves all", x.undo(), 1);
        checks.due(14, "about(0, 3)", x.about(0, 3), 0);
        checks.due(14, "digest()", x.digest(), start);
    }

    private static void of() {
        TideTreaty x = new TideTreaty();
        x.cell(5, 9, 44, 2);
        x.dike(5, 3);
        int[] due = {9, 44, 2, 3, 0, 0};
        for (int i = 0; i < 6; i++) checks.due(15, "of(5, " + i + ")", x.of(5, i), due[i]);
        x.year(2);
        checks.due(15, "of(0, 4)", x.of(0, 4), 2);
        checks.due(15, "of(0, 5)", x.of(0, 5), 0);
        x.year(1);
        checks.due(15, "of(0, 5)", x.of(0, 5), 1);
        int[][] wrong = {{-1, 0}, {6, 0}, {0, -1}, {0, 6}, {HUGE, HUGE}};
        for (int[] w : wrong) checks.due(15, "a wrong of", x.of(w[0], w[1]), TideTreaty.BAD);
        checks.due(15, "status(0)", x.status(0), wrong.length);
    }

    private static void about() {
        TideTreaty x = Checks.dry();
        for (int kind = 0; kind < 6; kind++) x.treaty(kind, 0, 0, 0, 50 + kind, 9);
        int[] costs = {9, 9, 9, 10, 18, 5};
        int[] inSpring = {8, 11, 15, 8, 11, 4};
        int[] else_ = {8, 11, 8, 8, 11, 4};
        for (int kind = 0; kind < 6; kind++) {
            checks.due(16, "about(" + kind + ", 0)", x.about(kind, 0), kind);
            checks.due(16, "about(" + kind + ", 1)", x.about(kind, 1), costs[kind]);
            checks.due(16, "about(" + kind + ", 2)", x.about(kind, 2), inSpring[kind]);
            checks.due(16, "about(" + kind + ", 3)", x.about(kind, 3), 0);
            checks.due(16, "about(" + kind + ", 4)", x.about(kind, 4), 50 + kind);
        }
        x.bells(0);
        x.year(1);
        int[] breached = {1, 1, 1, 0, 1, 0};
        for (int kind = 0; kind < 6; kind++) {
            checks.due(16, "about(" + kind + ", 2)", x.about(kind, 2), else_[kind]);
            checks.due(16, "about(" + kind + ", 3)", x.about(kind, 3), breached[kind]);
        }
        int[][] wrong = {{-1, 0}, {6, 0}, {0, -1}, {0, 5}, {HUGE, 0}};
        for (int[] w : wrong) checks.due(16, "a wrong about", x.about(w[0], w[1]), TideTreaty.BAD);
        checks.due(16, "status(0)", x.status(0), wrong.length);
        x.burn(0);
        x.treaty(5, 0, 0, 0, 1, 8);
        checks.due(16, "about(0, 1)", x.about(0, 1), 5);
    }

    private static void storm() {
        TideTreaty x = new TideTreaty();
        for (int k = 0; k < 8; k++) x.want(k, k + 1);
        x.moon(7);
        checks.due(17, "storm(0)", x.storm(0), 3);
        checks.due(17, "storm(7)", x.storm(7), 10);
        checks.due(17, "storm(8)", x.storm(8), 1);
        checks.due(17, "storm(999)", x.storm(999), 8);
        checks.due(17, "storm(994)", x.storm(994), 5);
        for (int y : new int[] {-1, 1000, HUGE}) checks.due(17, "storm(" + y + ")", x.storm(y), TideTreaty.BAD);
        checks.due(17, "status(0)", x.status(0), 3);
    }

    private static void guarded() {
        TideTreaty x = new TideTreaty();
        x.treaty(0, 1, 2, 0, 2, 0);
        x.treaty(1, 4, 4, 1, 3, 0);
        x.treaty(5, 0, 0, 0, 9, 0);
        checks.due(18, "guarded(), storm 5", x.guarded(), 6);
        x.want(0, 6);
        checks.due(18, "guarded(), storm 8", x.guarded(), 6);
        x.want(0, 7);
        checks.due(18, "guarded(), storm 9", x.guarded(), 0);
        x.year(1);
        checks.due(18, "guarded(), storm 3", x.guarded(), 1 + 6 + 16);
        x.year(1);
        checks.due(18, "guarded(), from till on not", x.guarded(), 1 + 16);
        x.want(2, 11);
        checks.due(18, "guarded(), storm 11", x.guarded(), 16);
        x.want(2, 12);
        checks.due(18, "guarded(), storm 12", x.guarded(), 0);
    }

    private static void wet() {
        TideTreaty x = new TideTreaty();
        checks.due(19, "wet()", x.wet(), 63);
        x.cell(4, 5, 0, 0);
        checks.due(19, "wet(), as high as the storm", x.wet(), 15);
        x.treaty(0, 2, 2, 0, 1, 20);
        x.bells(0);
        checks.due(19, "wet(), guarded before anything is due", x.wet(), 3);
        x.cell(0, 4, 0, 0);
        x.dike(0, 1);
        checks.due(19, "wet()", x.wet(), 0);
        x.dike(0, 0);
        checks.due(19, "wet()", x.wet(), 3);
    }
}
