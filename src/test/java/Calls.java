import java.util.ArrayList;
import java.util.List;

/** Each call that takes numbers: the least and the greatest that each may be, and what it answers if one is not so. */
final class Calls {
    interface Made {
        int on(TideTreaty x, int[] v);
    }

    final String name;
    final int promise;
    final int answerIfBad;
    /** Pairs: least, greatest. Where nothing may be told (no treaty), the greatest is below the least. */
    final int[] bounds;
    final Made made;
    /** Whether it is a question, which changes nothing. */
    final boolean asks;

    private Calls(int promise, String name, boolean asks, int answerIfBad, int[] bounds, Made made) {
        this.promise = promise;
        this.name = name;
        this.asks = asks;
        this.answerIfBad = answerIfBad;
        this.bounds = bounds;
        this.made = made;
    }

    int parameters() {
        return bounds.length / 2;
    }

    /** The least of each. */
    int[] inBounds() {
        int[] v = new int[parameters()];
        for (int i = 0; i < v.length; i++) v[i] = bounds[2 * i];
        return v;
    }

    String told(int[] v) {
        return name + java.util.Arrays.toString(v);
    }

    static List<Calls> of(TideTreaty x) {
        int n = x.count(0);
        int treaties = x.count(4);
        List<Calls> all = new ArrayList<>();
        addCoast(all, n - 1, treaties - 1);
        addYears(all, n - 1, treaties - 1);
        addAhead(all, n - 1, (1 << n) - 1);
        addFound(all, n - 1, (1 << n) - 1);
        addKept(all);
        return all;
    }

    private static int[] pairs(int... bounds) {
        return bounds;
    }

    private static void tells(List<Calls> all, int promise, String name, int[] bounds, Made made) {
        all.add(new Calls(promise, name, false, TideTreaty.BAD, bounds, made));
    }

    private static void asks(List<Calls> all, int promise, String name, int bad, int[] bounds, Made made) {
        all.add(new Calls(promise, name, true, bad, bounds, made));
    }

    private static void addCoast(List<Calls> all, int cell, int treaty) {
        tells(all, 2, "coast", pairs(1, 8), (x, v) -> x.coast(v[0]));
        tells(all, 3, "cell", pairs(0, cell, 0, 9, 0, 99, 0, 2), (x, v) -> x.cell(v[0], v[1], v[2], v[3]));
        tells(all, 4, "dike", pairs(0, cell, 0, 9), (x, v) -> x.dike(v[0], v[1]));
        tells(all, 5, "want", pairs(0, 7, 0, 15), (x, v) -> x.want(v[0], v[1]));
        tells(all, 6, "moon", pairs(1, 9), (x, v) -> x.moon(v[0]));
        tells(all, 7, "bells", pairs(0, 999), (x, v) -> x.bells(v[0]));
        // From is at most to: so it is told once with to at its least, and once with to at its greatest.
        tells(all, 8, "treaty", pairs(0, 5, 0, 0, 0, cell, 0, 99, 0, 99, 0, 20),
            (x, v) -> x.treaty(v[0], v[1], v[2], v[3], v[4], v[5]));
        tells(all, 8, "treaty to the last cell", pairs(0, cell), (x, v) -> x.treaty(0, v[0], cell, 0, 99, 0));
        tells(all, 9, "end", pairs(0, treaty), (x, v) -> x.end(v[0]));
        tells(all, 10, "type", pairs(0, 127), (x, v) -> x.type(v[0]));
    }

    private static void addYears(List<Calls> all, int cell, int treaty) {
        tells(all, 13, "year", pairs(1, 9), (x, v) -> x.year(v[0]));
        asks(all, 15, "of", TideTreaty.BAD, pairs(0, cell, 0, 5), (x, v) -> x.of(v[0], v[1]));
        asks(all, 16, "about", TideTreaty.BAD, pairs(0, treaty, 0, 4), (x, v) -> x.about(v[0], v[1]));
        asks(all, 17, "storm", TideTreaty.BAD, pairs(0, 999), (x, v) -> x.storm(v[0]));
    }

    private static void addAhead(List<Calls> all, int cell, int bits) {
        asks(all, 20, "then", TideTreaty.BAD, pairs(0, 30, 0, 4), (x, v) -> x.then(v[0], v[1]));
        asks(all, 22, "offer", -1000, pairs(0, 0, 0, cell, 1, 12, 0, 1), (x, v) -> x.offer(v[0], v[1], v[2], v[3]));
        asks(all, 22, "offer to the last cell", -1000, pairs(0, cell), (x, v) -> x.offer(v[0], cell, 1, 0));
        asks(all, 23, "cheapest", -10, pairs(0, bits, 1, 12, 0, 1), (x, v) -> x.cheapest(v[0], v[1], v[2]));
        asks(all, 24, "clashes", -10, pairs(-1, Integer.MAX_VALUE), (x, v) -> x.clashes(v[0]));
        asks(all, 26, "letsIn", TideTreaty.BAD, pairs(0, 2, 0, 1), (x, v) -> x.letsIn(v[0], v[1]));
        asks(all, 27, "rests", -10, pairs(0, 1), (x, v) -> x.rests(v[0]));
    }

    private static void addFound(List<Calls> all, int cell, int bits) {
        tells(all, 28, "tide, wet", pairs(0, 7, 0, cell), (x, v) -> x.tide(v[0], v[1], true));
        tells(all, 28, "tide, dry", pairs(0, 7, 0, cell), (x, v) -> x.tide(v[0], v[1], false));
        asks(all, 29, "learnt", -10, pairs(0, 7, 0, 1), (x, v) -> x.learnt(v[0], v[1]));
        asks(all, 30, "shells", -10, pairs(0, bits, 0, 1), (x, v) -> x.shells(v[0], v[1]));
        asks(all, 31, "vote", TideTreaty.BAD, pairs(1, 12, 0, 12, 0, 1), (x, v) -> x.vote(v[0], v[1], v[2]));
        asks(all, 32, "drawn", TideTreaty.BAD, pairs(0, 30, 0, 999999, 0, 4), (x, v) -> x.drawn(v[0], v[1], v[2]));
    }

    private static void addKept(List<Calls> all) {
        tells(all, 33, "burn", pairs(0, 1), (x, v) -> x.burn(v[0]));
        tells(all, 34, "image", pairs(0, 1), (x, v) -> x.image(v[0]));
        tells(all, 35, "from", pairs(0, 1), (x, v) -> x.from(v[0]));
        asks(all, 36, "status", -1, pairs(0, 2), (x, v) -> x.status(v[0]));
        asks(all, 37, "count", TideTreaty.BAD, pairs(0, 7), (x, v) -> x.count(v[0]));
    }
}
