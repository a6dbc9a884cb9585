/** Objects in states that stand at an edge: nothing told, one cell alone, all rows full, and behind the last year. */
final class Scenes {
    static final int NEW = 0, ONE_CELL = 1, ALL_FULL = 2, LATE = 3, HOW_MANY = 4;
    /** 150 bytes, the most that a text has, without a fault and with no item that is refused. */
    static final String FULL_TEXT = "coast 8;" + "treaty 5 0 7 0 99 20;".repeat(6) + "dike 7 9;moon 9;";

    private Scenes() {
    }

    static TideTreaty make(int scene) {
        switch (scene) {
            case ONE_CELL: return oneCell();
            case ALL_FULL: return allFull();
            case LATE: return late();
            default: return new TideTreaty();
        }
    }

    private static TideTreaty oneCell() {
        TideTreaty x = new TideTreaty();
        x.coast(1);
        x.treaty(0, 0, 0, 0, 9, 1);
        x.tide(3, 0, true);
        x.year(2);
        x.image(1);
        Checks.type(x, "coast 9;");
        return x;
    }

    /** Eight cells, six treaties, six tides, six years to undo, two images, 150 bytes. */
    private static TideTreaty allFull() {
        TideTreaty x = new TideTreaty();
        x.coast(8);
        for (int c = 0; c < 8; c++) {
            x.cell(c, (3 * c + 1) % 5, 10 * c + 9, c % 3);
            x.dike(c, c % 4 + 1);
        }
        for (int k = 0; k < 8; k++) x.want(k, (5 * k + 3) % 12);
        x.moon(3);
        x.bells(90);
        for (int kind = 0; kind < 6; kind++) x.treaty(kind, kind, 7, kind, 20 + kind, 3 * kind);
        for (int i = 0; i < 6; i++) x.tide(i % 2, i, i % 3 == 0);
        x.year(2);
        x.image(0);
        x.want(7, 14);
        x.year(7);
        x.image(1);
        for (int i = 0; i < FULL_TEXT.length(); i++) x.type(FULL_TEXT.charAt(i));
        return x;
    }

    /** In year 904, with treaties that have ended, five years to undo. */
    private static TideTreaty late() {
        TideTreaty x = Checks.dry();
        x.treaty(2, 1, 4, 3, 99, 7);
        x.treaty(0, 0, 5, 90, 99, 20);
        for (int i = 0; i < 99; i++) x.year(9);
        x.year(8);
        x.moon(5);
        x.year(1);
        x.image(0);
        x.year(4);
        return x;
    }

    /** All that can be seen of it, STATUS first. It uses the object up: it undoes, goes on from images and reads. */
    static long[] allOf(TideTreaty x) {
        Row row = new Row();
        for (int what = 0; what < 3; what++) row.add(x.status(what));
        addPresent(x, row);
        addUndone(x, row);
        for (int i = 0; i < 2; i++) {
            row.add(x.from(i));
            addPresent(x, row);
            addUndone(x, row);
        }
        row.add(x.read());
        addPresent(x, row);
        return row.numbers();
    }

    private static void addPresent(TideTreaty x, Row row) {
        row.add(x.digest());
        row.add(x.guarded());
        row.add(x.wet());
        row.add(x.then(30, 0));
        row.add(x.then(30, 4));
        for (int t = 0; t < 6; t++) {
            for (int what = 1; what < 3; what++) row.add(x.about(t, what));
        }
    }

    private static void addUndone(TideTreaty x, Row row) {
        for (int i = 0; i < 7; i++) {
            row.add(x.undo());
            row.add(x.digest());
        }
    }

    private static final class Row {
        private final long[] all = new long[512];
        private int many = 0;

        void add(long number) {
            all[many] = number;
            many++;
        }

        long[] numbers() {
            return java.util.Arrays.copyOf(all, many);
        }
    }
}
