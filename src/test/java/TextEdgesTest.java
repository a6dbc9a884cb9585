/** Promises 10 to 12, sentence by sentence: THE TEXT, its FAULTS and what is refused of it, at the edges. */
public final class TextEdgesTest {
    private static final String[] WORDS = {"coast", "cell", "dike", "want", "moon", "treaty"};
    private static final int[] NUMBERS = {1, 4, 2, 2, 1, 6};
    /** The greatest that each number of an ITEM may be where there are 8 CELLS. */
    private static final int[][] GREATEST = {{8}, {7, 9, 99, 2}, {7, 9}, {7, 15}, {9}, {5, 7, 7, 99, 99, 20}};
    private static final Checks checks = new Checks();

    public static void main(String[] args) {
        everyByteIsTyped();
        at150Bytes();
        clearOfEachLength();
        emptyAndBlank();
        everyPrefix();
        everyByteAtEachPlace();
        oneNumberFewerOrMore();
        figuresOfANumber();
        wordsThatAreNone();
        coastOnceFirstOfAll();
        blanksBetween();
        eachNumberOfAnItem();
        theFirstItemRefused();
        aFaultGoesAhead();
        inTheirOrder();
        toldAnewByTheseAlone();
        lessThanACoastAtFirst();
        readLeavesTheText();
        sixTreatiesAndASeventh();
        asManyItemsAsThereCanBe();
        checks.finish();
    }

    private static int read(String text) {
        TideTreaty x = new TideTreaty();
        Checks.type(x, text);
        return x.read();
    }

    private static void readDue(String text, int due) {
        checks.due(12, "read() of '" + text + "'", read(text), due);
    }

    private static void faultDue(String text, int place) {
        readDue(text, -10 - place);
    }

    /** "A byte (0 .. 127) comes behind THE TEXT: how many it has." */
    private static void everyByteIsTyped() {
        TideTreaty x = new TideTreaty();
        for (int c = 0; c < 128; c++) checks.due(10, "type(" + c + ")", x.type(c), c + 1);
        checks.due(10, "type(128)", x.type(128), TideTreaty.BAD);
        checks.due(10, "type(-1)", x.type(-1), TideTreaty.BAD);
        checks.due(10, "count(7)", x.count(7), 128);
    }

    /** "FULL: 150." */
    private static void at150Bytes() {
        TideTreaty x = new TideTreaty();
        for (int i = 1; i <= 149; i++) x.type(' ');
        checks.due(10, "type, the 150th", x.type(' '), 150);
        checks.due(10, "type, the 151st", x.type(' '), TideTreaty.FULL);
        checks.due(10, "count(7)", x.count(7), 150);
        checks.due(11, "clear()", x.clear(), 150);
        checks.due(10, "type behind clear()", x.type(' '), 1);
    }

    /** "THE TEXT is empty: how many it had." */
    private static void clearOfEachLength() {
        TideTreaty x = new TideTreaty();
        checks.due(11, "clear() of none", x.clear(), 0);
        for (int many = 1; many < 20; many++) {
            for (int i = 0; i < many; i++) x.type(0);
            checks.due(11, "clear()", x.clear(), many);
            checks.due(11, "count(7)", x.count(7), 0);
        }
        checks.due(11, "clear() again", x.clear(), 0);
        checks.due(11, "read() of none", x.read(), -10);
    }

    /** "the TEXT's length, if it ends too early (an empty one, too)". */
    private static void emptyAndBlank() {
        faultDue("", 0);
        for (int many = 1; many <= 150; many++) faultDue(" ".repeat(many), many);
    }

    private static boolean isLetter(String text, int i) {
        return i >= 0 && i < text.length() && 'a' <= text.charAt(i) && text.charAt(i) <= 'z';
    }

    /** Where a text is cut within a word, the word is none; behind a ; it is a whole one; else it ends too early. */
    private static void everyPrefix() {
        String text = "coast 8;cell 7 9 99 2; dike 7 9 ;want 7 15;moon 9;treaty 5 0 7 0 99 20;";
        int items = 0;
        int wordFrom = 0;
        boolean whole = false;
        for (int i = 0; i < text.length(); i++) {
            String cut = text.substring(0, i);
            if (isLetter(text, i) && !isLetter(text, i - 1)) wordFrom = i;
            if (whole) readDue(cut, items);
            else if (isLetter(text, i) && isLetter(text, i - 1)) faultDue(cut, wordFrom);
            else faultDue(cut, i);
            if (text.charAt(i) == ';') items++;
            whole = text.charAt(i) == ';' || whole && text.charAt(i) == ' ';
        }
        readDue(text, 6);
    }

    /** "a byte that begins none": each of the 128 bytes, where a word, a number, a ; and nothing more is due. */
    private static void everyByteAtEachPlace() {
        for (int c = 0; c < 128; c++) {
            String sign = String.valueOf((char) c);
            boolean letter = isLetter(sign, 0);
            boolean figure = '0' <= c && c <= '9';
            faultDue(sign, c == ' ' ? 1 : 0);
            faultDue("coast " + sign, figure || c == ' ' ? 7 : 6);
            if (c == ';') readDue("coast 3" + sign, 1);
            else faultDue("coast 3" + sign, figure || c == ' ' ? 8 : 7);
            if (c == ';') readDue("coast 3 " + sign, 1);
            else faultDue("coast 3 " + sign, c == ' ' ? 9 : 8);
            if (c == ' ') readDue("coast 3;" + sign, 1);
            else faultDue("coast 3;" + sign, 8);
            faultDue("coast 3;moon" + sign, letter ? 8 : figure || c == ' ' ? 13 : 12);
        }
    }

    private static String item(int word, int[] numbers) {
        StringBuilder text = new StringBuilder(WORDS[word]);
        for (int number : numbers) text.append(' ').append(number);
        return text.append(';').toString();
    }

    /** What stands ahead of an ITEM of that word. */
    private static String ahead(int word) {
        return word == 0 ? "" : "coast 8;";
    }

    /** "coast n; cell x HEIGHT WORTH TOWN; dike x n; want k n; moon n; treaty KIND from to y y PRICE". */
    private static void oneNumberFewerOrMore() {
        for (int word = 0; word < WORDS.length; word++) {
            for (int many = 0; many <= 7; many++) {
                int[] numbers = new int[many];
                java.util.Arrays.fill(numbers, 1);
                String text = ahead(word) + item(word, numbers);
                if (many == NUMBERS[word]) readDue(text, word == 0 ? 1 : 2);
                else if (many < NUMBERS[word]) faultDue(text, text.length() - 1);
                else faultDue(text, (ahead(word) + WORDS[word]).length() + 1 + 2 * NUMBERS[word]);
            }
        }
    }

    /** "numbers (all figures that stand together; of more than 2 it is none)". */
    private static void figuresOfANumber() {
        readDue("coast 8;", 1);
        readDue("coast 08;", 1);
        faultDue("coast 008;", 6);
        faultDue("coast 000;", 6);
        faultDue("coast 0000000008;", 6);
        faultDue("coast 99999999999999999999;", 6);
        faultDue("coast 8; treaty 0 0 0 0 100 0;", 24);
        faultDue("coast 8; want 0 1 5;", 18);
        faultDue("coast 8; want 0 15 ; want 0 150;", 28);
        faultDue("coast 0 8;", 8);
        readDue("coast 00;", -1000);
        readDue("coast 99;", -1000);
        // Behind a fault nothing is looked at, and the first of two is told.
        faultDue("coast 123 456;", 6);
    }

    /** "a word that is none". */
    private static void wordsThatAreNone() {
        for (int word = 1; word < WORDS.length; word++) {
            faultDue("coast 8; " + WORDS[word] + "s 0 0;", 9);
            faultDue("coast 8; " + WORDS[word].substring(1) + " 0 0;", 9);
            faultDue("coast 8; x" + WORDS[word] + " 0 0;", 9);
            faultDue("coast 8; " + WORDS[word] + WORDS[word] + " 0 0;", 9);
        }
        faultDue("coast 8; bells 9;", 9);
        faultDue("coast 8; tide 0 0;", 9);
        faultDue("coast 8; year 1;", 9);
        faultDue("coast coast;", 6);
        faultDue("coast x;", 6);
        faultDue("coast 8; moon moon;", 14);
        faultDue("coast 8; moon 4 moon 4;", 16);
        faultDue("c oast 8;", 0);
        faultDue("coast 8; mo on 4;", 9);
    }

    /** "coast n (once, first of all)"; "coast again, anything ahead of it". */
    private static void coastOnceFirstOfAll() {
        for (int word = 1; word < WORDS.length; word++) {
            String item = item(word, new int[NUMBERS[word]]);
            faultDue(item + "coast 8;", 0);
            faultDue("  " + item, 2);
            String whole = "coast 8;" + item;
            faultDue(whole + "coast 8;", whole.length());
        }
        faultDue(";coast 8;", 0);
        faultDue("8;", 0);
        faultDue("coast 8;coast 8;", 8);
        faultDue("coast 8;coast", 8);
        faultDue("coast 8; 8;", 9);
        faultDue("coast 8;;", 8);
        faultDue("coast 8; ; moon 4;", 9);
    }

    /** "blanks (32) between": as many as there are, also none where a TOKEN ends without one. */
    private static void blanksBetween() {
        readDue("coast8;moon4;", 2);
        readDue("   coast    8   ;   moon   4   ;   ", 2);
        readDue("coast 8;want7 15;", 2);
        faultDue("coast\t8;", 5);
        faultDue("coast\n8;", 5);
        faultDue("coast 8;\r", 8);
        faultDue("coast " + (char) 0 + "8;", 6);
        faultDue("coast 8," + "moon 4;", 7);
    }

    /** "the first ITEM (0 on) that is refused (as its call is)": each number at its greatest, and one above. */
    private static void eachNumberOfAnItem() {
        for (int word = 0; word < WORDS.length; word++) {
            int number = word == 0 ? 0 : 1;
            readDue(ahead(word) + item(word, GREATEST[word]), number + 1);
            for (int i = 0; i < NUMBERS[word]; i++) {
                int[] v = GREATEST[word].clone();
                v[i]++;
                // 100 is no number, so that it is a fault and no refusal.
                String text = ahead(word) + item(word, v);
                if (v[i] == 100) faultDue(text, text.indexOf("100"));
                else readDue(text, -1000 - number);
            }
        }
        readDue("coast 0;", -1000);
        readDue("coast 8;moon 0;", -1001);
        readDue("coast 8;treaty 0 1 0 0 0 0;", -1001);
        readDue("coast 1;cell 0 0 0 0;", 2);
        readDue("coast 1;cell 1 0 0 0;", -1001);
        readDue("coast 1;dike 1 0;", -1001);
        readDue("coast 7;treaty 0 7 7 0 0 0;", -1001);
    }

    private static void theFirstItemRefused() {
        readDue("coast 9;moon 0;", -1000);
        readDue("coast 8;moon 0;moon 0;", -1001);
        readDue("coast 8;moon 1;moon 2;moon 0;dike 9 9;", -1003);
        readDue("coast1;" + "moon1;".repeat(22) + "moon0;", -1023);
    }

    /** "A COAST without a FAULT is told anew": a FAULT goes ahead of an ITEM that would be refused. */
    private static void aFaultGoesAhead() {
        faultDue("coast 9;moon", 12);
        faultDue("coast 9;x", 8);
        faultDue("coast 8;moon 0;moon 100;", 20);
    }

    /** "is told anew by these alone, in their order". */
    private static void inTheirOrder() {
        TideTreaty x = new TideTreaty();
        Checks.type(x, "coast 4;moon 3;moon 7;want 0 1;want 0 6;dike 3 5;dike 3 2;"
            + "cell 0 1 1 1;cell 0 5 6 2;treaty 2 0 1 0 5 3;treaty 4 1 3 2 9 8;");
        checks.due(12, "read()", x.read(), 11);
        checks.due(12, "moon", x.count(3), 7);
        checks.due(12, "want", x.storm(0), 8);
        checks.due(12, "dike", x.of(3, 3), 2);
        checks.due(12, "height", x.of(0, 0), 5);
        checks.due(12, "worth", x.of(0, 1), 6);
        checks.due(12, "town", x.of(0, 2), 2);
        checks.due(12, "treaty 0", x.about(0, 0), 2);
        checks.due(12, "treaty 0, costs", x.about(0, 1), 3);
        checks.due(12, "treaty 0, till", x.about(0, 4), 5);
        checks.due(12, "treaty 0, its cells", x.guarded(), 3);
        checks.due(12, "treaty 1", x.about(1, 0), 4);
        checks.due(12, "treaty 1, costs", x.about(1, 1), 16);
        checks.due(12, "treaty 1, till", x.about(1, 4), 9);
    }

    /** "told anew by these alone": what was told ahead is gone, years that might be undone too. */
    private static void toldAnewByTheseAlone() {
        TideTreaty x = Scenes.make(Scenes.ALL_FULL);
        Checks.type(x, "coast 6;");
        checks.due(12, "read()", x.read(), 1);
        x.clear();
        checks.due(12, "digest(), as a new object's", x.digest(), new TideTreaty().digest());
        checks.due(12, "undo()", x.undo(), TideTreaty.NO);
        checks.due(12, "then(0, 4)", x.then(0, 4), 0);
        checks.due(12, "treaty, not breached", x.treaty(0, 0, 0, 0, 9, 0) + x.about(0, 3), 0);
    }

    private static void lessThanACoastAtFirst() {
        TideTreaty x = new TideTreaty();
        Checks.type(x, "coast 1;");
        x.read();
        checks.due(12, "count(0)", x.count(0), 1);
        Checks.type(x, "coast 8;cell 7 9 99 2;");
        checks.due(12, "read(), by its own cells", x.read(), 2);
        Checks.type(x, "coast 1;cell 7 9 99 2;");
        checks.due(12, "read(), by its own cells", x.read(), -1001);
        checks.due(12, "count(0)", x.count(0), 8);
        checks.due(12, "of(7, 0)", x.of(7, 0), 9);
    }

    private static void readLeavesTheText() {
        TideTreaty x = new TideTreaty();
        x.image(1);
        x.coast(0);
        Checks.type(x, "coast 3;");
        for (int i = 0; i < 3; i++) checks.due(12, "read()", x.read(), 1);
        checks.due(12, "count(7)", x.count(7), 8);
        checks.due(12, "type behind it", x.type('x'), 9);
        checks.due(12, "read()", x.read(), -18);
        checks.due(12, "status(0)", x.status(0), 1);
        checks.due(12, "from(1)", x.from(1), 1);
        checks.due(12, "count(0)", x.count(0), 6);
    }

    /** "as its call is": FULL refuses an ITEM too, whatever TREATIES there were. */
    private static void sixTreatiesAndASeventh() {
        TideTreaty x = Scenes.make(Scenes.ALL_FULL);
        checks.due(12, "read(), six", x.read(), 9);
        checks.due(12, "count(4)", x.count(4), 6);
        checks.due(12, "count(3)", x.count(3), 9);
        checks.due(12, "of(7, 3)", x.of(7, 3), 9);
        readDue("coast 1;" + "treaty 0 0 0 0 0 0;".repeat(6), 7);
        readDue("coast 1;" + "treaty 0 0 0 0 0 0;".repeat(7), -1007);
    }

    /** 150 bytes of the shortest ITEMS: 24 of them, and 5 bytes that are one more but for its end. */
    private static void asManyItemsAsThereCanBe() {
        String most = "coast1;" + "moon1;".repeat(23);
        readDue(most, 24);
        readDue(most + "     ", 24);
        faultDue(most + "moon", 149);
        faultDue(most + "moon1", 150);
        faultDue(most + "moons", 145);
        faultDue(most + "moon;", 149);
        faultDue(most + ";", 145);
        readDue("coast1;" + "moon1;".repeat(21) + "moon0;moon2;", -1022);
        TideTreaty x = new TideTreaty();
        Checks.type(x, "coast8;" + "moon1;".repeat(22) + "moon9;     ");
        checks.due(12, "read()", x.read(), 24);
        checks.due(12, "the last of them is told", x.count(3), 9);
    }
}
