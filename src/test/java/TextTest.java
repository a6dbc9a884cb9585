/** Promises 10 to 12: the text and the coast that it tells. */
public final class TextTest {
    private static final Checks checks = new Checks();

    public static void main(String[] args) {
        type();
        clear();
        readsACoast();
        faults();
        refusedItems();
        readingIsNoRefusal();
        bytesOfAnOlderText();
        fullTexts();
        checks.finish();
    }

    private static void type() {
        TideTreaty x = new TideTreaty();
        checks.due(10, "type(0)", x.type(0), 1);
        checks.due(10, "type(127)", x.type(127), 2);
        for (int c : new int[] {-1, 128, Integer.MAX_VALUE, Integer.MIN_VALUE}) {
            checks.due(10, "type(" + c + ")", x.type(c), TideTreaty.BAD);
        }
        for (int i = 3; i <= 150; i++) checks.due(10, "type(' ')", x.type(' '), i);
        checks.due(10, "type(' '), full", x.type(' '), TideTreaty.FULL);
        checks.due(10, "type(-1), full", x.type(-1), TideTreaty.BAD);
        checks.due(10, "status(0)", x.status(0), 5);
        checks.due(10, "status(2)", x.status(2), 1);
        checks.due(10, "count(7)", x.count(7), 150);
    }

    private static void clear() {
        TideTreaty x = new TideTreaty();
        checks.due(11, "clear()", x.clear(), 0);
        x.type('a');
        x.type('b');
        checks.due(11, "clear()", x.clear(), 2);
        checks.due(11, "count(7)", x.count(7), 0);
        x.year(1);
        x.type('a');
        x.clear();
        checks.due(11, "undo()", x.undo(), 1);
    }

    private static void readsACoast() {
        TideTreaty x = new TideTreaty();
        x.want(5, 9);
        x.bells(3);
        x.tide(1, 1, false);
        x.treaty(0, 0, 0, 0, 9, 9);
        x.year(3);
        Checks.type(x, "  coast3;cell 1 09 50 2 ; dike 0 4;want 7 15;moon 9;treaty 4 0 2 1 8 20;  ");
        checks.due(12, "read()", x.read(), 6);
        TideTreaty y = new TideTreaty();
        y.coast(3);
        y.cell(1, 9, 50, 2);
        y.dike(0, 4);
        y.want(7, 15);
        y.moon(9);
        y.treaty(4, 0, 2, 1, 8, 20);
        checks.due(12, "count(7)", x.count(7), 74);
        x.clear();
        checks.due(12, "digest()", x.digest(), y.digest());
        checks.due(12, "about(0, 3)", x.about(0, 3), 0);
    }

    private static void fault(String text, int place) {
        TideTreaty x = new TideTreaty();
        x.bells(7);
        x.year(1);
        Checks.type(x, text);
        long before = x.digest();
        checks.due(12, "read() of '" + text + "'", x.read(), -10 - place);
        checks.due(12, "digest()", x.digest(), before);
        checks.due(12, "undo()", x.undo(), 1);
    }

    private static void faults() {
        fault("", 0);
        fault("   ", 3);
        fault("coast", 5);
        fault("coast 3", 7);
        fault("coast 3  ", 9);
        fault("coast 3; cell 1", 15);
        fault("coast 3; moon 4", 15);
        fault("coast ;", 6);
        fault("coast 3 4;", 8);
        fault("coast 3 x;", 8);
        fault("coast cell", 6);
        fault("coast 123;", 6);
        fault("coast 003;", 6);
        fault("coast 3;;", 8);
        fault("; coast 3;", 0);
        fault("3", 0);
        fault(" cell 0 1 1 1;", 1);
        fault("coast 3; coast 3;", 9);
        fault("coasts 3;", 0);
        fault("coas", 0);
        fault("coast 3; sea 1;", 9);
        fault("coast 3; bells 9;", 9);
        fault("Coast 3;", 0);
        fault("coast -3;", 6);
        fault("coast\t3;", 5);
        fault("coast 3;\n", 8);
        fault("coast 3; dike 0 1 2;", 18);
        fault("coast 3; treaty 0 0 0 0 0 ;", 26);
        fault("coast 3; treaty 0 0 0 0 0 0 0;", 28);
        fault("coast 9; cell 0 1 1 x", 20);
    }

    private static void refusedItem(String text, int item) {
        TideTreaty x = new TideTreaty();
        x.bells(7);
        x.year(1);
        Checks.type(x, text);
        long before = x.digest();
        checks.due(12, "read() of '" + text + "'", x.read(), -1000 - item);
        checks.due(12, "digest()", x.digest(), before);
        checks.due(12, "undo()", x.undo(), 1);
        for (int what = 0; what < 3; what++) checks.due(12, "status(" + what + ")", x.status(what), 0);
    }

    private static void refusedItems() {
        refusedItem("coast 0;", 0);
        refusedItem("coast 9; moon 0;", 0);
        refusedItem("coast 3; cell 3 1 1 1;", 1);
        refusedItem("coast 3; cell 0 10 1 1;", 1);
        refusedItem("coast 3; moon 1; dike 0 10;", 2);
        refusedItem("coast 3; want 8 1;", 1);
        refusedItem("coast 3; want 7 16;", 1);
        refusedItem("coast 3; moon 0;", 1);
        refusedItem("coast 3; treaty 0 2 1 0 0 0;", 1);
        refusedItem("coast 3; treaty 0 0 0 0 0 21;", 1);
        String six = "treaty 0 0 0 0 0 0;".repeat(6);
        refusedItem("coast 1;" + six + "treaty 1 0 0 0 0 0;", 7);
    }

    /** What stood behind the end before the text was cleared is no part of it. */
    private static void bytesOfAnOlderText() {
        TideTreaty x = new TideTreaty();
        Checks.type(x, "coast 55");
        Checks.type(x, "coast 5");
        checks.due(12, "read()", x.read(), -10 - 7);
        Checks.type(x, "coast 5;    moon 4;");
        Checks.type(x, "coast 5; ");
        checks.due(12, "read()", x.read(), 1);
        Checks.type(x, "coast 3; moon 4;");
        Checks.type(x, "coast 3; moo");
        checks.due(12, "read()", x.read(), -10 - 9);
    }

    /** A text of 150 bytes, on an object of its own: an object serves 512 calls. */
    private static void full(String text, int due) {
        TideTreaty x = new TideTreaty();
        Checks.type(x, text);
        checks.due(12, "count(7)", x.count(7), 150);
        checks.due(12, "read() of '" + text + "'", x.read(), due);
    }

    private static void fullTexts() {
        String items = "coast1;" + "moon1;".repeat(22);
        full(items + " moon 10;  ", -1000 - 23);
        full(items + "    moon 2;", 24);
        full(items + "  moon 2;  ", 24);
        full(items + "    moon 12", -10 - 150);
        full(items + "       moon", -10 - 150);
        full(items + "        moo", -10 - 147);
        full(";".repeat(150), -10);
        full(" ".repeat(150), -10 - 150);
        full("coast1;" + "moon1;".repeat(23) + "    ;", -10 - 149);
    }

    private static void readingIsNoRefusal() {
        TideTreaty x = new TideTreaty();
        x.read();
        Checks.type(x, "coast 9;");
        x.read();
        for (int what = 0; what < 3; what++) checks.due(36, "status(" + what + ")", x.status(what), 0);
        Checks.type(x, "coast 8;moon1;");
        checks.due(12, "read()", x.read(), 2);
        checks.due(12, "read() again", x.read(), 2);
        checks.due(12, "count(3)", x.count(3), 1);
    }
}
