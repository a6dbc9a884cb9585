/** Compares answers with those that are due, and ends the run with 1 if one was not. */
final class Checks {
    private int wrong = 0;
    private int compared = 0;

    void due(int promise, String call, long got, long want) {
        compared++;
        if (got == want) return;
        wrong++;
        System.out.println("promise " + promise + ": " + call + " answered " + got + ", due is " + want);
    }

    void dueAll(int promise, String call, long[] got, long[] want) {
        due(promise, call + ": how many", got.length, want.length);
        for (int i = 0; i < Math.min(got.length, want.length); i++) {
            if (got[i] == want[i]) continue;
            due(promise, call + ": number " + i, got[i], want[i]);
            return;
        }
    }

    void finish() {
        System.out.println(wrong == 0 ? compared + " answers are as due" : wrong + " answers are not as due");
        if (wrong != 0) System.exit(1);
    }

    static void type(TideTreaty x, String text) {
        x.clear();
        for (int i = 0; i < text.length(); i++) x.type(text.charAt(i));
    }

    /** A coast of six cells that no storm of 9 or less comes into, with yields of 9, 1, 1, 1, 1, 1. */
    static TideTreaty dry() {
        TideTreaty x = new TideTreaty();
        x.cell(0, 9, 99, 0);
        return x;
    }
}
