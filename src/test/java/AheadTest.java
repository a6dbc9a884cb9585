/** Promises 20 to 23: what comes. */
public final class AheadTest {
    private static final int HUGE = Integer.MAX_VALUE, LOW = Integer.MIN_VALUE;
    private static final Checks checks = new Checks();

    public static void main(String[] args) {
        then();
        thenIsWhatYearsBring();
        firstLost();
        offer();
        offerPriceIsNoThreshold();
        offerRefused();
        cheapest();
        cheapestRefused();
        checks.finish();
    }

    private static void then() {
        TideTreaty x = Checks.dry();
        x.treaty(0, 0, 5, 0, 99, 20);
        x.bells(30);
        long before = x.digest();
        checks.due(20, "then(0, 0)", x.then(0, 0), 30);
        checks.due(20, "then(2, 0)", x.then(2, 0), 18);
        checks.due(20, "then(2, 4)", x.then(2, 4), 0);
        checks.due(20, "then(3, 0)", x.then(3, 0), 32);
        checks.due(20, "then(3, 4)", x.then(3, 4), 1);
        checks.due(20, "then(30, 0)", x.then(30, 0), 32 + 27 * 14);
        checks.due(20, "digest()", x.digest(), before);
        x = new TideTreaty();
        x.cell(3, 4, 70, 0);
        checks.due(20, "then(0, 1)", x.then(0, 1), 0);
        checks.due(20, "then(1, 1)", x.then(1, 1), 63);
        checks.due(20, "then(2, 1)", x.then(2, 1), 7);
        checks.due(20, "then(2, 2)", x.then(2, 2), 0);
        checks.due(20, "then(3, 2)", x.then(3, 2), 7);
        checks.due(20, "then(2, 3)", x.then(2, 3), 120);
        checks.due(20, "then(3, 3)", x.then(3, 3), 90);
        int[][] wrong = {{-1, 0}, {31, 0}, {0, -1}, {0, 5}, {HUGE, 0}, {LOW, HUGE}};
        for (int[] w : wrong) checks.due(20, "a wrong then", x.then(w[0], w[1]), TideTreaty.BAD);
        checks.due(20, "status(0)", x.status(0), wrong.length);
    }

    private static void thenIsWhatYearsBring() {
        TideTreaty x = new TideTreaty();
        x.cell(1, 4, 95, 1);
        x.dike(1, 2);
        x.dike(0, 3);
        for (int k = 0; k < 8; k++) x.want(k, (5 * k + 3) % 11);
        x.treaty(4, 1, 2, 2, 7, 9);
        x.treaty(5, 0, 0, 1, 6, 17);
        int bells = x.then(9, 0);
        int lost = x.then(9, 2);
        int breached = x.then(9, 4);
        checks.due(20, "then(9, 0)", bells, x.year(9));
        for (int c = 0; c < 6; c++) checks.due(20, "lost", (lost >> c) & 1, x.of(c, 5));
        for (int t = 0; t < 2; t++) checks.due(20, "breached", (breached >> t) & 1, x.about(t, 3));
    }

    private static void firstLost() {
        TideTreaty x = new TideTreaty();
        checks.due(21, "firstLost()", x.firstLost(), 2);
        x.year(2);
        checks.due(21, "firstLost()", x.firstLost(), 2);
        x.year(1);
        checks.due(21, "firstLost(), lost already", x.firstLost(), 3);
        checks.due(21, "firstLost(), none", Checks.dry().firstLost(), TideTreaty.NONE);
        // Guarded till a year, then flooded thrice: in the 30th year ahead, or in the 31st.
        x.coast(1);
        x.treaty(0, 0, 0, 0, 27, 0);
        checks.due(21, "firstLost()", x.firstLost(), 29);
        x.coast(1);
        x.treaty(0, 0, 0, 0, 28, 0);
        checks.due(21, "firstLost()", x.firstLost(), TideTreaty.NONE);
        x.year(1);
        long before = x.digest();
        checks.due(21, "firstLost()", x.firstLost(), 30);
        checks.due(21, "digest()", x.digest(), before);
        checks.due(21, "undo()", x.undo(), 1);
    }

    private static void offer() {
        TideTreaty x = new TideTreaty();
        x.bells(40);
        // No yields where the water comes, 6 a year where it does not: 40, and 6 of each year but the last.
        long before = x.digest();
        checks.due(22, "offer(0, 5, 1, 0)", x.offer(0, 5, 1, 0), 20);
        checks.due(22, "offer(0, 5, 4, 0)", x.offer(0, 5, 4, 0), 14);
        checks.due(22, "offer(0, 5, 12, 0)", x.offer(0, 5, 12, 0), 8);
        checks.due(22, "offer(0, 5, 12, 1)", x.offer(0, 5, 12, 1), 72);
        checks.due(22, "offer(5, 5, 12, 1)", x.offer(5, 5, 12, 1), 12);
        checks.due(22, "offer(2, 3, 5, 1)", x.offer(2, 3, 5, 1), 20);
        checks.due(22, "digest()", x.digest(), before);
        checks.due(22, "count(4)", x.count(4), 0);
        x.bells(0);
        x.cell(0, 2, 9, 0);
        checks.due(22, "offer(0, 0, 1, 0), no bells", x.offer(0, 0, 1, 0), 0);
        checks.due(22, "offer(0, 0, 1, 1), no bells", x.offer(0, 0, 1, 1), 6);
        // From this year on, not from year 0.
        x.coast(1);
        x.year(9);
        x.cell(0, 2, 0, 0);
        x.bells(12);
        checks.due(22, "offer(0, 0, 3, 0)", x.offer(0, 0, 3, 0), 4);
        checks.due(22, "offer(0, 0, 3, 1)", x.offer(0, 0, 3, 1), 3);
    }

    private static TideTreaty arrearsOf20InYear1() {
        TideTreaty x = new TideTreaty();
        x.coast(2);
        x.cell(0, 2, 0, 0);
        x.cell(1, 2, 0, 0);
        x.treaty(3, 0, 0, 0, 9, 9);
        x.bells(25);
        return x;
    }

    /** Prices 0 to 2 are kept beside the other treaty, 3 to 5 breached behind it, 6 to 12 kept since it is breached. */
    private static void offerPriceIsNoThreshold() {
        TideTreaty x = arrearsOf20InYear1();
        checks.due(22, "offer(1, 1, 2, 0)", x.offer(1, 1, 2, 0), 12);
        checks.due(22, "offer(1, 1, 2, 1), more are flooded", x.offer(1, 1, 2, 1), -1);
        checks.due(22, "status(0)", x.status(0), 0);
    }

    private static void offerRefused() {
        TideTreaty x = new TideTreaty();
        int[][] wrong = {{-1, 0, 1, 0}, {0, 6, 1, 0}, {3, 2, 1, 0}, {0, 0, 0, 0}, {0, 0, 13, 0}, {0, 0, 1, -1},
            {0, 0, 1, 2}, {HUGE, HUGE, HUGE, HUGE}};
        for (int[] w : wrong) checks.due(22, "a wrong offer", x.offer(w[0], w[1], w[2], w[3]), -1000);
        checks.due(22, "status(0)", x.status(0), wrong.length);
        for (int i = 0; i < 5; i++) x.treaty(0, 0, 0, 0, 0, 0);
        checks.due(22, "offer, a sixth", x.offer(0, 0, 1, 0), 20);
        x.treaty(0, 0, 0, 0, 0, 0);
        checks.due(22, "offer, a seventh", x.offer(0, 0, 1, 0), -2000);
        checks.due(22, "a wrong seventh", x.offer(0, 0, 0, 0), -1000);
        checks.due(22, "status(1)", x.status(1), 1);
    }

    private static void cheapest() {
        TideTreaty x = new TideTreaty();
        x.cell(0, 0, 10, 0);
        x.cell(2, 4, 10, 0);
        long before = x.digest();
        checks.due(23, "cheapest(1, 1, 0)", x.cheapest(1, 1, 0), 5);
        checks.due(23, "cheapest(1, 1, 1)", x.cheapest(1, 1, 1), 0);
        checks.due(23, "cheapest(2, 1, 0)", x.cheapest(2, 1, 0), 3);
        checks.due(23, "cheapest(2, 1, 1)", x.cheapest(2, 1, 1), 1);
        checks.due(23, "cheapest(32, 12, 0)", x.cheapest(32, 12, 0), 1);
        checks.due(23, "cheapest(32, 12, 1)", x.cheapest(32, 12, 1), 2);
        checks.due(23, "cheapest(0, 12, 0)", x.cheapest(0, 12, 0), 0);
        checks.due(23, "cheapest(0, 12, 1)", x.cheapest(0, 12, 1), 0);
        checks.due(23, "digest()", x.digest(), before);
        // Of like ones the first: cells 1 and 2 need as many feet.
        x.cell(1, 4, 10, 0);
        checks.due(23, "cheapest(32, 1, 1)", x.cheapest(32, 1, 1), 1);
        // Nine feet at most: 2 and 9 stand against 11, and not against 12.
        x.coast(1);
        x.dike(0, 7);
        x.want(0, 9);
        checks.due(23, "cheapest(1, 1, 0)", x.cheapest(1, 1, 0), 2);
        x.want(0, 10);
        checks.due(23, "cheapest(1, 1, 0)", x.cheapest(1, 1, 0), TideTreaty.NONE);
        checks.due(23, "cheapest(1, 1, 1)", x.cheapest(1, 1, 1), TideTreaty.NONE);
        checks.due(23, "status(0)", x.status(0), 0);
        x.dike(0, 0);
        x.want(0, 9);
        checks.due(23, "cheapest(1, 1, 0), all nine", x.cheapest(1, 1, 0), 9);
        // A later year wants more than the first.
        x.coast(1);
        x.want(5, 8);
        checks.due(23, "cheapest(1, 5, 0)", x.cheapest(1, 5, 0), 3);
        checks.due(23, "cheapest(1, 6, 0)", x.cheapest(1, 6, 0), 6);
    }

    private static void cheapestRefused() {
        TideTreaty x = new TideTreaty();
        int[][] wrong = {{-1, 1, 0}, {64, 1, 0}, {0, 0, 0}, {0, 13, 0}, {0, 1, -1}, {0, 1, 2}, {LOW, HUGE, HUGE}};
        for (int[] w : wrong) checks.due(23, "a wrong cheapest", x.cheapest(w[0], w[1], w[2]), -10);
        checks.due(23, "status(0)", x.status(0), wrong.length);
        x.coast(8);
        checks.due(23, "cheapest(255, 1, 0)", x.cheapest(255, 1, 0), 3);
        checks.due(23, "cheapest(256, 1, 0)", x.cheapest(256, 1, 0), -10);
    }
}
