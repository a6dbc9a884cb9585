import java.util.List;

/**
 * "Refused, changing nothing but STATUS, the first of: BAD -2 ..; NO -3 as told; FULL -4": each NO and FULL of each
 * call; and what is answered below 0 but is no refusal.
 */
public final class RefusalsTest {
    private static final int BAD = 0, NO = 1, FULL = 2;
    private static final Checks checks = new Checks();

    interface Build {
        TideTreaty anew();
    }

    interface Call {
        int on(TideTreaty x);
    }

    public static void main(String[] args) {
        endIsNo();
        yearIsNo();
        undoIsNo();
        fromIsNo();
        offerIsNo();
        treatyIsFull();
        typeIsFull();
        tideIsFull();
        badGoesAheadOfNoAndFull();
        anotherStatusCountsAsBad();
        noRefusals();
        questionsChangeNothing();
        eachReasonIsCountedAlone();
        checks.finish();
    }

    /** The call answers so, STATUS counts it once for that reason, and nothing else is another. */
    private static void refused(int promise, String told, Build build, Call call, int answer, int reason) {
        TideTreaty x = build.anew();
        checks.due(promise, told, call.on(x), answer);
        long[] due = Scenes.allOf(build.anew());
        due[reason]++;
        checks.dueAll(promise, "nothing but STATUS is changed: " + told, Scenes.allOf(x), due);
    }

    /** The call answers so, and nothing at all is changed. */
    private static void changesNothing(int promise, String told, Build build, Call call, int answer) {
        TideTreaty x = build.anew();
        checks.due(promise, told, call.on(x), answer);
        checks.dueAll(promise, "nothing is changed: " + told, Scenes.allOf(x), Scenes.allOf(build.anew()));
    }

    private static Build scene(int scene) {
        return () -> Scenes.make(scene);
    }

    /** One treaty of years first to till, in year 5, of which some may be undone. */
    private static Build inYear5(int first, int till) {
        return () -> {
            TideTreaty x = Checks.dry();
            x.treaty(0, 0, 5, first, till, 1);
            x.year(5);
            return x;
        };
    }

    /** "NO: it has ended, or begins later." */
    private static void endIsNo() {
        refused(9, "end: till is this year", inYear5(0, 5), x -> x.end(0), TideTreaty.NO, NO);
        refused(9, "end: till was the year before", inYear5(0, 4), x -> x.end(0), TideTreaty.NO, NO);
        refused(9, "end: begins next year", inYear5(6, 9), x -> x.end(0), TideTreaty.NO, NO);
        refused(9, "end: of no years, this one", inYear5(5, 5), x -> x.end(0), TideTreaty.NO, NO);
        refused(9, "end: till ahead of its first", inYear5(5, 3), x -> x.end(0), TideTreaty.NO, NO);
        refused(9, "end: begins later, till has gone", inYear5(7, 3), x -> x.end(0), TideTreaty.NO, NO);
        Build ended = () -> {
            TideTreaty x = inYear5(0, 9).anew();
            x.end(0);
            return x;
        };
        refused(9, "end: a second time", ended, x -> x.end(0), TideTreaty.NO, NO);
        refused(9, "end: long ago", scene(Scenes.LATE), x -> x.end(1), TideTreaty.NO, NO);
    }

    private static Build inYear(int year) {
        return () -> {
            TideTreaty x = Checks.dry();
            for (int i = 0; i < year / 9; i++) x.year(9);
            if (year % 9 > 0) x.year(year % 9);
            return x;
        };
    }

    /** "NO: the YEAR is above 900 already." */
    private static void yearIsNo() {
        for (int n = 1; n <= 9; n++) {
            int years = n;
            refused(13, "year(" + n + ") in year 901", inYear(901), x -> x.year(years), TideTreaty.NO, NO);
        }
        refused(13, "year(1) in year 904", scene(Scenes.LATE), x -> x.year(1), TideTreaty.NO, NO);
        refused(13, "year(9) in year 909", inYear(909), x -> x.year(9), TideTreaty.NO, NO);
    }

    /** "NO: none may be." */
    private static void undoIsNo() {
        refused(14, "undo() on a new object", scene(Scenes.NEW), TideTreaty::undo, TideTreaty.NO, NO);
        Build told = () -> {
            TideTreaty x = scene(Scenes.ALL_FULL).anew();
            x.bells(50);
            return x;
        };
        refused(14, "undo() behind what is told", told, TideTreaty::undo, TideTreaty.NO, NO);
        Build undone = () -> {
            TideTreaty x = scene(Scenes.ALL_FULL).anew();
            for (int i = 0; i < 6; i++) x.undo();
            return x;
        };
        refused(14, "undo(), the seventh", undone, TideTreaty::undo, TideTreaty.NO, NO);
    }

    /** "NO: none was kept." */
    private static void fromIsNo() {
        for (int i = 0; i < 2; i++) {
            int image = i;
            refused(35, "from(" + i + ") on a new object", scene(Scenes.NEW), x -> x.from(image), TideTreaty.NO, NO);
            Build other = () -> {
                TideTreaty x = Checks.dry();
                x.image(1 - image);
                x.year(3);
                return x;
            };
            refused(35, "from(" + i + "), the other is kept", other, x -> x.from(image), TideTreaty.NO, NO);
        }
    }

    /** "NO: -2000: there are 6 TREATIES." */
    private static void offerIsNo() {
        refused(22, "offer(.., 0)", scene(Scenes.ALL_FULL), x -> x.offer(0, 7, 12, 0), -2000, NO);
        refused(22, "offer(.., 1)", scene(Scenes.ALL_FULL), x -> x.offer(7, 7, 1, 1), -2000, NO);
    }

    /** "FULL: 6." */
    private static void treatyIsFull() {
        refused(8, "a seventh treaty", scene(Scenes.ALL_FULL), x -> x.treaty(0, 0, 0, 0, 1, 0), TideTreaty.FULL, FULL);
        refused(8, "a seventh, of no years", scene(Scenes.ALL_FULL), x -> x.treaty(5, 7, 7, 9, 0, 20), TideTreaty.FULL, FULL);
    }

    /** "FULL: 150." */
    private static void typeIsFull() {
        for (int c : new int[] {0, ' ', ';', 127}) {
            refused(10, "type(" + c + ")", scene(Scenes.ALL_FULL), x -> x.type(c), TideTreaty.FULL, FULL);
        }
    }

    /** "FULL: 6." */
    private static void tideIsFull() {
        refused(28, "a seventh tide, wet", scene(Scenes.ALL_FULL), x -> x.tide(0, 0, true), TideTreaty.FULL, FULL);
        refused(28, "a seventh tide, dry", scene(Scenes.ALL_FULL), x -> x.tide(7, 7, false), TideTreaty.FULL, FULL);
    }

    private static void badGoesAheadOfNoAndFull() {
        Build full = scene(Scenes.ALL_FULL);
        refused(8, "treaty, BAD and FULL", full, x -> x.treaty(0, 5, 4, 0, 1, 0), TideTreaty.BAD, BAD);
        refused(10, "type, BAD and FULL", full, x -> x.type(128), TideTreaty.BAD, BAD);
        refused(28, "tide, BAD and FULL", full, x -> x.tide(0, 8, true), TideTreaty.BAD, BAD);
        refused(22, "offer, BAD and NO", full, x -> x.offer(1, 0, 1, 0), -1000, BAD);
        refused(13, "year, BAD and NO", scene(Scenes.LATE), x -> x.year(10), TideTreaty.BAD, BAD);
        refused(35, "from, BAD and NO", scene(Scenes.NEW), x -> x.from(2), TideTreaty.BAD, BAD);
        refused(9, "end, BAD and NO", inYear5(0, 5), x -> x.end(1), TideTreaty.BAD, BAD);
    }

    /** "-1: another what (counts as BAD)." */
    private static void anotherStatusCountsAsBad() {
        refused(36, "status(-1)", scene(Scenes.ALL_FULL), x -> x.status(-1), -1, BAD);
        refused(36, "status(3)", scene(Scenes.ALL_FULL), x -> x.status(3), -1, BAD);
    }

    private static Build typed(String text) {
        return () -> {
            TideTreaty x = scene(Scenes.ALL_FULL).anew();
            Checks.type(x, text);
            return x;
        };
    }

    /** "each answer told so below is such a one; ITEMS are none": a fault, -5 and NONE are no refusals either. */
    private static void noRefusals() {
        changesNothing(12, "read() of an empty text", typed(""), TideTreaty::read, -10);
        changesNothing(12, "read() with a fault", typed("coast 3; coast"), TideTreaty::read, -19);
        changesNothing(12, "read() that ends too early", typed("coast 3"), TideTreaty::read, -17);
        changesNothing(12, "read(), item 0 is BAD", typed("coast 9;"), TideTreaty::read, -1000);
        changesNothing(12, "read(), item 2 is BAD", typed("coast 3;moon 2;moon 0;want 8 0;"), TideTreaty::read, -1002);
        String seven = "coast1;" + "treaty0 0 0 0 0 0;".repeat(7);
        changesNothing(12, "read(), item 7 is FULL", typed(seven), TideTreaty::read, -1007);
        changesNothing(24, "clashes(15)", scene(Scenes.ALL_FULL), x -> x.clashes(15), -5);
        changesNothing(24, "clashes(0)", scene(Scenes.NEW), x -> x.clashes(0), -5);
        changesNothing(21, "firstLost(), none", scene(Scenes.LATE), TideTreaty::firstLost, TideTreaty.NONE);
        Build noneFits = () -> {
            TideTreaty x = new TideTreaty();
            x.tide(0, 0, true);
            x.tide(0, 0, false);
            x.year(1);
            return x;
        };
        changesNothing(29, "learnt(0, 1), none fit", noneFits, x -> x.learnt(0, 1), TideTreaty.NONE);
        changesNothing(29, "learnt(0, 0), none fit", noneFits, x -> x.learnt(0, 0), 0);
        Build tooHigh = () -> {
            TideTreaty x = new TideTreaty();
            x.want(1, 15);
            x.year(1);
            return x;
        };
        changesNothing(23, "cheapest, none", tooHigh, x -> x.cheapest(1, 1, 0), TideTreaty.NONE);
        changesNothing(23, "cheapest, none", tooHigh, x -> x.cheapest(1, 1, 1), TideTreaty.NONE);
    }

    /** "(What is below changes nothing ..)" and each other question, with numbers at both ends of their bounds. */
    private static void questionsChangeNothing() {
        for (int scene = 0; scene < Scenes.HOW_MANY; scene++) {
            List<Calls> calls = Calls.of(Scenes.make(scene));
            TideTreaty x = Scenes.make(scene);
            int refusedAs = x.status(NO);
            for (Calls call : calls) {
                if (!call.asks) continue;
                call.made.on(x, call.inBounds());
                call.made.on(x, greatest(call));
            }
            x.guarded();
            x.wet();
            x.firstLost();
            x.mend();
            x.digest();
            long[] due = Scenes.allOf(Scenes.make(scene));
            // Without a treaty about() is BAD twice; with six of them each of the four offers is NO.
            if (scene == Scenes.NEW) due[BAD] += 2;
            due[NO] += x.status(NO) - refusedAs;
            checks.due(22, "scene " + scene + ": offers refused", x.status(NO) - refusedAs, scene == Scenes.ALL_FULL ? 4 : 0);
            checks.dueAll(20, "scene " + scene + ": questions change nothing", Scenes.allOf(x), due);
        }
    }

    private static int[] greatest(Calls call) {
        int[] v = new int[call.parameters()];
        for (int i = 0; i < v.length; i++) v[i] = call.bounds[2 * i + 1];
        return v;
    }

    private static void dueStatus(TideTreaty x, int bad, int no, int full) {
        checks.due(36, "status(0)", x.status(0), bad);
        checks.due(36, "status(1)", x.status(1), no);
        checks.due(36, "status(2)", x.status(2), full);
    }

    /** "STATUS: how many calls were refused as BAD, NO, FULL." */
    private static void eachReasonIsCountedAlone() {
        TideTreaty x = new TideTreaty();
        dueStatus(x, 0, 0, 0);
        x.offer(0, 9, 1, 0);
        x.cheapest(0, 0, 0);
        x.rests(2);
        x.count(8);
        dueStatus(x, 4, 0, 0);
        x.undo();
        x.from(0);
        dueStatus(x, 4, 2, 0);
        for (int i = 0; i < 9; i++) x.treaty(0, 0, 0, 0, 1, 0);
        dueStatus(x, 4, 2, 3);
        x.offer(0, 0, 1, 0);
        dueStatus(x, 4, 3, 3);
        // Nothing takes the counts away: no coast, image, text or year undone.
        x.image(0);
        x.coast(4);
        x.status(3);
        x.year(1);
        x.undo();
        x.from(0);
        Checks.type(x, "coast 2;");
        x.read();
        dueStatus(x, 5, 3, 3);
    }
}
