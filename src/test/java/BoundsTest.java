import java.util.Arrays;
import java.util.List;

/**
 * "BAD -2 a number is not as told": for each number of each call the bounds themselves, the numbers just below and just
 * above, and the farthest; in each scene. A refused call answers as told, changes nothing but STATUS, which counts it.
 */
public final class BoundsTest {
    private static final Checks checks = new Checks();

    public static void main(String[] args) {
        for (int scene = 0; scene < Scenes.HOW_MANY; scene++) {
            List<Calls> calls = Calls.of(Scenes.make(scene));
            for (Calls call : calls) {
                for (int i = 0; i < call.parameters(); i++) eachNumber(scene, call, i);
                allNumbersWrongAtOnce(scene, call);
            }
        }
        bitsBelowNoneAreWrong();
        checks.finish();
    }

    private static void eachNumber(int scene, Calls call, int i) {
        int least = call.bounds[2 * i];
        int greatest = call.bounds[2 * i + 1];
        if (least > Integer.MIN_VALUE) refusedWith(scene, call, i, least - 1);
        refusedWith(scene, call, i, Integer.MIN_VALUE);
        if (greatest < Integer.MAX_VALUE) {
            // Without a treaty the greatest is below the least: then the least itself is wrong.
            refusedWith(scene, call, i, Math.max(least, greatest + 1));
            refusedWith(scene, call, i, Integer.MAX_VALUE);
        }
        if (!hasRoom(call)) return;
        takenWith(scene, call, i, least);
        takenWith(scene, call, i, greatest);
    }

    /** Without a treaty there is no number in bounds. */
    private static boolean hasRoom(Calls call) {
        for (int i = 0; i < call.parameters(); i++) {
            if (call.bounds[2 * i] > call.bounds[2 * i + 1]) return false;
        }
        return true;
    }

    private static void refusedWith(int scene, Calls call, int i, int number) {
        int[] v = call.inBounds();
        v[i] = number;
        refused(scene, call, v);
    }

    private static void allNumbersWrongAtOnce(int scene, Calls call) {
        int[] v = new int[call.parameters()];
        Arrays.fill(v, Integer.MIN_VALUE);
        refused(scene, call, v);
    }

    private static void refused(int scene, Calls call, int[] v) {
        String told = "scene " + scene + ": " + call.told(v);
        TideTreaty x = Scenes.make(scene);
        checks.due(call.promise, told, call.made.on(x, v), call.answerIfBad);
        long[] due = Scenes.allOf(Scenes.make(scene));
        due[0]++;
        checks.dueAll(call.promise, "nothing but STATUS is changed by " + told, Scenes.allOf(x), due);
    }

    private static void takenWith(int scene, Calls call, int i, int number) {
        int[] v = call.inBounds();
        v[i] = number;
        TideTreaty x = Scenes.make(scene);
        int bad = x.status(0);
        call.made.on(x, v);
        checks.due(call.promise, "scene " + scene + ": refused as BAD by " + call.told(v), x.status(0) - bad, 0);
    }

    /** CELLS as bits: for each coast the bits of its cells and no other. */
    private static void bitsBelowNoneAreWrong() {
        for (int n = 1; n <= 8; n++) {
            TideTreaty x = new TideTreaty();
            x.coast(n);
            for (int bit = n; bit < 32; bit++) {
                checks.due(23, n + " cells: cheapest of cell " + bit, x.cheapest(1 << bit, 1, 0), -10);
                checks.due(30, n + " cells: shells of cell " + bit, x.shells(1 << bit, 0), -10);
            }
            checks.due(36, n + " cells: status(0)", x.status(0), 2 * (32 - n));
            for (int bit = 0; bit < n; bit++) {
                checks.due(30, n + " cells: shells of cell " + bit, x.shells(1 << bit, 1), bit + 1);
            }
            checks.due(36, n + " cells: status(0)", x.status(0), 2 * (32 - n));
        }
    }
}
