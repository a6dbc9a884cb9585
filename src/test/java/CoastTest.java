/** Promises 1 to 9: what is told of a coast. */
public final class CoastTest {
    private static final int HUGE = Integer.MAX_VALUE, LOW = Integer.MIN_VALUE;
    private static final Checks checks = new Checks();

    public static void main(String[] args) {
        newObject();
        coast();
        coastForgetsWhatWasTold();
        coastLeavesTextImagesStatus();
        cell();
        cellIsNew();
        dike();
        want();
        moon();
        bells();
        treaty();
        end();
        tellingLeavesNothingToUndo();
        checks.finish();
    }

    private static void newObject() {
        TideTreaty x = new TideTreaty();
        int[] counts = {6, 0, 50, 4, 0, 0, 0, 0};
        for (int i = 0; i < counts.length; i++) checks.due(1, "count(" + i + ")", x.count(i), counts[i]);
        int[] ofCell = {2, 10, 0, 0, 0, 0};
        for (int c = 0; c < 6; c++) {
            for (int i = 0; i < ofCell.length; i++) checks.due(1, "of(" + c + ", " + i + ")", x.of(c, i), ofCell[i]);
        }
        for (int y = 0; y < 16; y++) checks.due(1, "storm(" + y + ")", x.storm(y), y % 4 == 0 ? 5 : 3);
        for (int i = 0; i < 3; i++) checks.due(1, "status(" + i + ")", x.status(i), 0);
        checks.due(1, "from(0)", x.from(0), TideTreaty.NO);
        checks.due(1, "from(1)", x.from(1), TideTreaty.NO);
        checks.due(1, "undo()", x.undo(), TideTreaty.NO);
        checks.due(1, "about(0, 0)", x.about(0, 0), TideTreaty.BAD);
    }

    private static void coast() {
        TideTreaty x = new TideTreaty();
        checks.due(2, "coast(8)", x.coast(8), 6);
        checks.due(2, "of(7, 0)", x.of(7, 0), 2);
        checks.due(2, "coast(1)", x.coast(1), 8);
        checks.due(2, "of(1, 0)", x.of(1, 0), TideTreaty.BAD);
        for (int n : new int[] {0, 9, -1, HUGE, LOW}) checks.due(2, "coast(" + n + ")", x.coast(n), TideTreaty.BAD);
        checks.due(2, "count(0)", x.count(0), 1);
    }

    private static void coastForgetsWhatWasTold() {
        TideTreaty x = new TideTreaty();
        x.cell(3, 7, 70, 2);
        x.dike(5, 4);
        x.want(6, 15);
        x.moon(9);
        x.bells(7);
        x.treaty(1, 0, 5, 0, 99, 20);
        x.tide(2, 3, true);
        x.year(4);
        checks.due(2, "coast(6)", x.coast(6), 6);
        checks.due(2, "digest() as a new object's", x.digest(), new TideTreaty().digest());
        checks.due(2, "undo()", x.undo(), TideTreaty.NO);
        checks.due(2, "treaty is not breached", x.treaty(0, 0, 0, 0, 9, 0) + x.about(0, 3), 0);
    }

    private static void coastLeavesTextImagesStatus() {
        TideTreaty x = new TideTreaty();
        x.type('c');
        x.bells(77);
        x.image(1);
        x.coast(0);
        x.coast(3);
        checks.due(2, "count(7)", x.count(7), 1);
        checks.due(2, "status(0)", x.status(0), 1);
        checks.due(2, "from(1)", x.from(1), 1);
        checks.due(2, "count(2)", x.count(2), 77);
    }

    private static void cell() {
        TideTreaty x = new TideTreaty();
        checks.due(3, "cell(0, 9, 99, 2)", x.cell(0, 9, 99, 2), 2);
        checks.due(3, "height", x.of(0, 0), 9);
        checks.due(3, "worth", x.of(0, 1), 99);
        checks.due(3, "town", x.of(0, 2), 2);
        checks.due(3, "cell(0, 0, 0, 0)", x.cell(0, 0, 0, 0), 9);
        checks.due(3, "worth", x.of(0, 1), 0);
        long before = x.digest();
        int[][] wrong = {{-1, 0, 0, 0}, {6, 0, 0, 0}, {0, -1, 0, 0}, {0, 10, 0, 0}, {0, 0, -1, 0}, {0, 0, 100, 0},
            {0, 0, 0, -1}, {0, 0, 0, 3}, {HUGE, HUGE, HUGE, HUGE}, {LOW, 0, 0, 0}};
        for (int[] w : wrong) checks.due(3, "a wrong cell", x.cell(w[0], w[1], w[2], w[3]), TideTreaty.BAD);
        checks.due(3, "digest()", x.digest(), before);
        checks.due(3, "status(0)", x.status(0), wrong.length);
    }

    private static void cellIsNew() {
        TideTreaty x = new TideTreaty();
        x.dike(0, 4);
        x.want(0, 9);
        x.want(1, 9);
        x.want(2, 9);
        x.year(3);
        checks.due(3, "lost", x.of(0, 5), 1);
        checks.due(3, "cell(0, 2, 10, 0)", x.cell(0, 2, 10, 0), 2);
        checks.due(3, "flooded", x.of(0, 4), 0);
        checks.due(3, "lost", x.of(0, 5), 0);
        checks.due(3, "the dike stays", x.of(0, 3), 1);
        checks.due(3, "another cell", x.of(1, 5), 1);
    }

    private static void dike() {
        TideTreaty x = new TideTreaty();
        checks.due(4, "dike(5, 9)", x.dike(5, 9), 0);
        checks.due(4, "dike(5, 0)", x.dike(5, 0), 9);
        checks.due(4, "dike(5, 3)", x.dike(5, 3), 0);
        checks.due(4, "of(5, 3)", x.of(5, 3), 3);
        int[][] wrong = {{-1, 0}, {6, 0}, {0, -1}, {0, 10}, {HUGE, HUGE}, {LOW, LOW}};
        for (int[] w : wrong) checks.due(4, "a wrong dike", x.dike(w[0], w[1]), TideTreaty.BAD);
        // A storm of 5 stands at 2 and 3 feet and goes over 2 and 2.
        x.coast(1);
        x.dike(0, 3);
        checks.due(4, "wet()", x.wet(), 0);
        x.dike(0, 2);
        checks.due(4, "wet()", x.wet(), 1);
    }

    private static void want() {
        TideTreaty x = new TideTreaty();
        checks.due(5, "want(0, 15)", x.want(0, 15), 3);
        checks.due(5, "want(0, 0)", x.want(0, 0), 15);
        checks.due(5, "want(7, 11)", x.want(7, 11), 3);
        checks.due(5, "storm(7)", x.storm(7), 11);
        checks.due(5, "storm(15)", x.storm(15), 11);
        int[][] wrong = {{-1, 0}, {8, 0}, {0, -1}, {0, 16}, {HUGE, 0}, {0, LOW}};
        for (int[] w : wrong) checks.due(5, "a wrong want", x.want(w[0], w[1]), TideTreaty.BAD);
        checks.due(5, "storm(0)", x.storm(0), 2);
    }

    private static void moon() {
        TideTreaty x = new TideTreaty();
        checks.due(6, "moon(1)", x.moon(1), 4);
        checks.due(6, "storm(7)", x.storm(7), 5);
        checks.due(6, "moon(9)", x.moon(9), 1);
        checks.due(6, "storm(8)", x.storm(8), 3);
        checks.due(6, "storm(9)", x.storm(9), 5);
        for (int n : new int[] {0, 10, -1, HUGE, LOW}) checks.due(6, "moon(" + n + ")", x.moon(n), TideTreaty.BAD);
        checks.due(6, "count(3)", x.count(3), 9);
        checks.due(6, "status(0)", x.status(0), 5);
    }

    private static void bells() {
        TideTreaty x = new TideTreaty();
        checks.due(7, "bells(0)", x.bells(0), 50);
        checks.due(7, "bells(999)", x.bells(999), 0);
        for (int n : new int[] {1000, -1, HUGE, LOW}) checks.due(7, "bells(" + n + ")", x.bells(n), TideTreaty.BAD);
        checks.due(7, "count(2)", x.count(2), 999);
        checks.due(7, "status(0)", x.status(0), 4);
    }

    private static void treaty() {
        TideTreaty x = new TideTreaty();
        checks.due(8, "treaty(5, 0, 5, 0, 99, 20)", x.treaty(5, 0, 5, 0, 99, 20), 0);
        checks.due(8, "treaty(0, 5, 5, 99, 0, 0)", x.treaty(0, 5, 5, 99, 0, 0), 1);
        int[][] wrong = {{-1, 0, 0, 0, 0, 0}, {6, 0, 0, 0, 0, 0}, {0, -1, 0, 0, 0, 0}, {0, 0, 6, 0, 0, 0},
            {0, 2, 1, 0, 0, 0}, {0, 0, 0, -1, 0, 0}, {0, 0, 0, 100, 0, 0}, {0, 0, 0, 0, -1, 0}, {0, 0, 0, 0, 100, 0},
            {0, 0, 0, 0, 0, -1}, {0, 0, 0, 0, 0, 21}, {HUGE, LOW, HUGE, LOW, HUGE, LOW}, {0, 6, 6, 0, 1, 0}};
        for (int[] w : wrong) {
            checks.due(8, "a wrong treaty", x.treaty(w[0], w[1], w[2], w[3], w[4], w[5]), TideTreaty.BAD);
        }
        checks.due(8, "count(4)", x.count(4), 2);
        for (int i = 2; i < 6; i++) checks.due(8, "one more", x.treaty(0, 0, 0, 0, 1, 0), i);
        checks.due(8, "a seventh", x.treaty(0, 0, 0, 0, 1, 0), TideTreaty.FULL);
        checks.due(8, "a wrong seventh", x.treaty(6, 0, 0, 0, 1, 0), TideTreaty.BAD);
        checks.due(8, "status(2)", x.status(2), 1);
        checks.due(8, "count(4)", x.count(4), 6);
    }

    private static void end() {
        TideTreaty x = Checks.dry();
        x.treaty(0, 0, 0, 0, 9, 0);
        x.treaty(0, 0, 0, 3, 9, 0);
        x.treaty(0, 0, 0, 0, 2, 0);
        x.treaty(0, 0, 0, 1, 1, 0);
        x.year(2);
        checks.due(9, "end(0)", x.end(0), 1);
        checks.due(9, "about(0, 4)", x.about(0, 4), 2);
        checks.due(9, "end(0), ended", x.end(0), TideTreaty.NO);
        checks.due(9, "end(1), later", x.end(1), TideTreaty.NO);
        checks.due(9, "end(2), its till is this year", x.end(2), TideTreaty.NO);
        checks.due(9, "end(3), of no years", x.end(3), TideTreaty.NO);
        checks.due(9, "end(4)", x.end(4), TideTreaty.BAD);
        checks.due(9, "end(-1)", x.end(-1), TideTreaty.BAD);
        checks.due(9, "status(1)", x.status(1), 4);
        x.year(1);
        checks.due(9, "end(1), in its first year", x.end(1), 1);
        checks.due(9, "about(1, 4)", x.about(1, 4), 3);
        checks.due(9, "guarded()", x.guarded(), 0);
    }

    private static void tellingLeavesNothingToUndo() {
        for (int call = 0; call < 11; call++) {
            TideTreaty x = new TideTreaty();
            x.treaty(0, 0, 0, 0, 99, 0);
            Checks.type(x, "coast 6;");
            x.year(2);
            tell(x, call);
            checks.due(14, "undo() behind telling " + call, x.undo(), TideTreaty.NO);
            checks.due(14, "count(6) behind telling " + call, x.count(6), 0);
        }
    }

    private static void tell(TideTreaty x, int call) {
        switch (call) {
            case 0: x.coast(6); break;
            case 1: x.cell(0, 2, 10, 0); break;
            case 2: x.dike(0, 0); break;
            case 3: x.want(0, 3); break;
            case 4: x.moon(4); break;
            case 5: x.bells(50); break;
            case 6: x.treaty(0, 0, 0, 0, 1, 0); break;
            case 7: x.end(0); break;
            case 8: x.read(); break;
            case 9: x.tide(0, 0, true); break;
            default: x.burn(1); break;
        }
    }
}
