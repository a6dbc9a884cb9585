import java.util.Random;

/** Runs of calls by a fixed seed, each answer and each state behind it compared with the model's. */
public final class RandomRunsTest {
    /** Each call is followed by digest(), and an object serves 512 calls. */
    private static final int RUNS = 1200, CALLS = 250;
    private static final String[] PIECES = {"coast ", "cell ", "dike ", "want ", "moon ", "treaty ", ";", " ", "0 ", "1 ",
        "5 ", "12", "100 ", "sea ", "coast 4;", "moon 3;", "dike 0 3;", "cell 1 4 50 2;", "treaty 3 0 1 0 9 7;", "-", "X"};
    private static final Checks checks = new Checks();

    private final Random random;
    private final TideTreaty x = new TideTreaty();
    private final Model model = new Model(6);
    private String typed = "";

    private RandomRunsTest(long seed) {
        random = new Random(seed);
    }

    public static void main(String[] args) {
        for (int run = 0; run < RUNS; run++) new RandomRunsTest(run).run(run);
        checks.finish();
    }

    private void run(int run) {
        for (int call = 0; call < CALLS; call++) {
            int which = typed.isEmpty() ? random.nextInt(42) : 9;
            int[] v = {0, 0, 0, 0, 0, 0};
            int[] most = most(which);
            for (int i = 0; i < most.length; i++) v[i] = number(most[i]);
            if (which == 9 && !typed.isEmpty()) {
                v[0] = typed.charAt(0);
                typed = typed.substring(1);
            }
            boolean wet = random.nextBoolean();
            String name = "run " + run + " call " + call + " which " + which + " " + java.util.Arrays.toString(v);
            checks.due(0, name, answer(which, v, wet), due(which, v, wet));
            checks.due(38, "digest behind " + name, x.digest(), model.digest());
            if (which == 10 && random.nextBoolean()) typed = newText();
        }
        for (int what = 0; what < 3; what++) checks.due(36, "run " + run, x.status(what), model.status(what));
    }

    /** Mostly 0 to most; sometimes just outside, seldom far. */
    private int number(int most) {
        int roll = random.nextInt(60);
        if (roll == 0) return -1;
        if (roll == 1) return most + 1;
        if (roll == 2) return random.nextInt();
        if (roll == 3) return most;
        return most < 0 ? most : random.nextInt(most + 1);
    }

    private String newText() {
        StringBuilder text = new StringBuilder(random.nextInt(8) == 0 ? "" : "coast " + random.nextInt(10) + ";");
        int pieces = random.nextInt(6);
        for (int i = 0; i < pieces; i++) {
            if (random.nextInt(5) == 0) text.append(PIECES[random.nextInt(PIECES.length)]);
            else text.append(PIECES[15 + random.nextInt(4)]);
        }
        return text.toString();
    }

    /** The greatest number that each argument may be, about. */
    private int[] most(int which) {
        int n = model.count(0);
        switch (which) {
            case 0: return new int[] {random.nextInt(4) == 0 ? 8 : 0};
            case 1: return new int[] {n - 1, 9, 99, 2};
            case 2: return new int[] {n - 1, 9};
            case 3: return new int[] {7, 15};
            case 4: return new int[] {9};
            case 5: return new int[] {random.nextBoolean() ? 999 : 60};
            case 6: case 7: return new int[] {5, n - 1, n - 1, random.nextBoolean() ? 20 : 99, 99, 20};
            case 8: return new int[] {5};
            case 9: return new int[] {127};
            case 12: case 13: return new int[] {9};
            case 15: return new int[] {n - 1, 5};
            case 16: return new int[] {5, 4};
            case 17: return new int[] {999};
            case 20: return new int[] {30, 4};
            case 22: return new int[] {n - 1, n - 1, 12, 1};
            case 23: return new int[] {(1 << n) - 1, 12, 1};
            case 24: return new int[] {random.nextInt(4) == 0 ? -1 : 8};
            case 26: return new int[] {2, 1};
            case 27: return new int[] {1};
            case 28: return new int[] {random.nextInt(3), n - 1};
            case 29: return new int[] {random.nextInt(4), 1};
            case 30: return new int[] {(1 << n) - 1, 1};
            case 31: return new int[] {12, random.nextInt(13), 1};
            case 32: return new int[] {30, 999999, 4};
            case 33: return new int[] {random.nextInt(3) == 0 ? 1 : 2};
            case 34: case 35: return new int[] {1};
            case 36: return new int[] {2};
            case 37: return new int[] {7};
            case 38: case 39: return new int[] {9};
            default: return new int[0];
        }
    }

    private long answer(int which, int[] v, boolean wet) {
        switch (which) {
            case 0: return x.coast(v[0]);
            case 1: return x.cell(v[0], v[1], v[2], v[3]);
            case 2: return x.dike(v[0], v[1]);
            case 3: return x.want(v[0], v[1]);
            case 4: return x.moon(v[0]);
            case 5: return x.bells(v[0]);
            case 6: case 7: return x.treaty(v[0], v[1], v[2], v[3], v[4], v[5]);
            case 8: return x.end(v[0]);
            case 9: return x.type(v[0]);
            case 10: return x.clear();
            case 11: return x.read();
            case 12: case 13: case 38: case 39: return x.year(v[0]);
            case 14: case 40: return x.undo();
            case 15: return x.of(v[0], v[1]);
            case 16: return x.about(v[0], v[1]);
            case 17: return x.storm(v[0]);
            case 18: return x.guarded();
            case 19: return x.wet();
            case 20: return x.then(v[0], v[1]);
            case 21: return x.firstLost();
            case 22: return x.offer(v[0], v[1], v[2], v[3]);
            case 23: return x.cheapest(v[0], v[1], v[2]);
            case 24: return x.clashes(v[0]);
            case 25: return x.mend();
            case 26: return x.letsIn(v[0], v[1]);
            case 27: return x.rests(v[0]);
            case 28: return x.tide(v[0], v[1], wet);
            case 29: return x.learnt(v[0], v[1]);
            case 30: return x.shells(v[0], v[1]);
            case 31: return x.vote(v[0], v[1], v[2]);
            case 32: return x.drawn(v[0], v[1], v[2]);
            case 33: return x.burn(v[0]);
            case 34: return x.image(v[0]);
            case 35: return x.from(v[0]);
            case 36: return x.status(v[0]);
            case 37: return x.count(v[0]);
            default: return x.digest();
        }
    }

    private long due(int which, int[] v, boolean wet) {
        switch (which) {
            case 0: return model.coast(v[0]);
            case 1: return model.cell(v[0], v[1], v[2], v[3]);
            case 2: return model.dike(v[0], v[1]);
            case 3: return model.want(v[0], v[1]);
            case 4: return model.moon(v[0]);
            case 5: return model.bells(v[0]);
            case 6: case 7: return model.treaty(v[0], v[1], v[2], v[3], v[4], v[5]);
            case 8: return model.end(v[0]);
            case 9: return model.type(v[0]);
            case 10: return model.clear();
            case 11: return model.read();
            case 12: case 13: case 38: case 39: return model.year(v[0]);
            case 14: case 40: return model.undo();
            case 15: return model.of(v[0], v[1]);
            case 16: return model.about(v[0], v[1]);
            case 17: return model.storm(v[0]);
            case 18: return model.guarded();
            case 19: return model.wet();
            case 20: return model.then(v[0], v[1]);
            case 21: return model.firstLost();
            case 22: return model.offer(v[0], v[1], v[2], v[3]);
            case 23: return model.cheapest(v[0], v[1], v[2]);
            case 24: return model.clashes(v[0]);
            case 25: return model.mend();
            case 26: return model.letsIn(v[0], v[1]);
            case 27: return model.rests(v[0]);
            case 28: return model.tide(v[0], v[1], wet);
            case 29: return model.learnt(v[0], v[1]);
            case 30: return model.shells(v[0], v[1]);
            case 31: return model.vote(v[0], v[1], v[2]);
            case 32: return model.drawn(v[0], v[1], v[2]);
            case 33: return model.burn(v[0]);
            case 34: return model.image(v[0]);
            case 35: return model.from(v[0]);
            case 36: return model.status(v[0]);
            case 37: return model.count(v[0]);
            default: return model.digest();
        }
    }
}
