/** A coast of cells, a sea that wants storms, and the treaties between them: see README.md. */
public final class TideTreaty {
    public static final int NONE = -1, BAD = -2, NO = -3, FULL = -4;

    private static final int MOST_CELLS = 8, CELLS_AT_FIRST = 6;
    private static final int MOST_HEIGHT = 9, MOST_WORTH = 99, MOST_DIKE = 9;
    private static final int TOWNS = 3, TOWN_SETS = 8;
    private static final int WANTS = 8, MOST_WANT = 15, MOST_MOON = 9, SPRING_MORE = 2;
    private static final int MOST_BELLS = 999, BELLS_AT_FIRST = 50;
    private static final int KINDS = 6, PLAIN = 0, MOST_TREATIES = 6, MOST_TREATY_YEAR = 99, MOST_PRICE = 20;
    private static final int MOST_TIDES = 6, FLOODS_TO_BE_LOST = 3;
    private static final int MOST_PAST = 6, MOST_YEARS_A_CALL = 9, LAST_YEAR_TO_RUN = 900, MOST_STORM_YEAR = 999;
    private static final int MOST_AHEAD = 30, MOST_PLANNED = 12, MOST_SEED = 999999;
    private static final int IMAGES = 2, MOST_TEXT = 150, MOST_BYTE = 127;
    private static final int FAULT_BASE = -10, REFUSED_ITEM_BASE = -1000;
    private static final int BAD_TEN = -10, NOT_SO_MANY = -5, BAD_OFFER = -1000, NO_OFFER = -2000;

    private final State state;
    /** Overwritten before each use: years to come and coasts being read run here, so that questions change nothing. */
    private final State trial;
    private final State[] images;
    private final Script script;
    private final int[] tillsAsCut;
    private int badCalls;
    private int noCalls;
    private int fullCalls;

    public TideTreaty() {
        Plain[] kinds = {new Plain(), new Oath(), new ByMoon(), new Arrears(), new ForBells(), new Disputed()};
        state = new State(kinds);
        trial = new State(kinds);
        images = new State[IMAGES];
        script = new Script();
        tillsAsCut = new int[MOST_TREATIES];
    }

    // ---- a coast

    public int coast(int n) {
        return told(state.tellCoast(n));
    }

    public int cell(int cell, int height, int worth, int town) {
        return told(state.tellCell(cell, height, worth, town));
    }

    public int dike(int cell, int n) {
        return told(state.tellDike(cell, n));
    }

    public int want(int k, int n) {
        return told(state.tellWant(k, n));
    }

    public int moon(int n) {
        return told(state.tellMoon(n));
    }

    public int bells(int n) {
        if (!within(n, 0, MOST_BELLS)) return refused(BAD, BAD);
        int was = state.now.bells;
        state.now.bells = n;
        return told(was);
    }

    public int treaty(int kind, int from, int to, int first, int till, int price) {
        return told(state.tellTreaty(kind, from, to, first, till, price));
    }

    public int end(int treaty) {
        if (!isTreaty(treaty)) return refused(BAD, BAD);
        Treaty ending = state.coast.treaties[treaty];
        if (!ending.runsIn(state.now.year)) return refused(NO, NO);
        ending.till = state.now.year;
        return told(1);
    }

    public int type(int c) {
        if (!within(c, 0, MOST_BYTE)) return refused(BAD, BAD);
        if (script.length >= MOST_TEXT) return refused(FULL, FULL);
        script.bytes[script.length] = c;
        script.length++;
        return script.length;
    }

    public int clear() {
        int had = script.length;
        script.length = 0;
        return had;
    }

    public int read() {
        int fault = script.parse();
        if (fault != NONE) return FAULT_BASE - fault;
        for (int item = 0; item < script.items; item++) {
            if (script.tellItem(trial, item) < 0) return REFUSED_ITEM_BASE - item;
        }
        state.coast.copyOf(trial.coast);
        state.now.copyOf(trial.now);
        return told(script.items);
    }

    // ---- years

    public int year(int n) {
        if (!within(n, 1, MOST_YEARS_A_CALL)) return refused(BAD, BAD);
        if (state.now.year > LAST_YEAR_TO_RUN) return refused(NO, NO);
        for (int i = 0; i < n; i++) {
            state.keepPast();
            state.coast.runYear(state.now, state.coast.stormOf(state.now.year));
        }
        return state.now.bells;
    }

    public int undo() {
        return state.stepBack() ? 1 : refused(NO, NO);
    }

    public int of(int cell, int what) {
        if (!isCell(cell)) return refused(BAD, BAD);
        switch (what) {
            case 0: return state.coast.heights[cell];
            case 1: return state.coast.worths[cell];
            case 2: return state.coast.towns[cell];
            case 3: return state.now.dikes[cell];
            case 4: return state.now.floods[cell];
            case 5: return state.now.isLost(cell) ? 1 : 0;
            default: return refused(BAD, BAD);
        }
    }

    public int about(int treaty, int what) {
        if (!isTreaty(treaty)) return refused(BAD, BAD);
        Treaty asked = state.coast.treaties[treaty];
        switch (what) {
            case 0: return asked.kind;
            case 1: return asked.costs;
            case 2: return asked.terms.holds(state.coast.isSpring(state.now.year));
            case 3: return state.now.isBreached(treaty) ? 1 : 0;
            case 4: return asked.till;
            default: return refused(BAD, BAD);
        }
    }

    public int storm(int y) {
        return within(y, 0, MOST_STORM_YEAR) ? state.coast.stormOf(y) : refused(BAD, BAD);
    }

    public int guarded() {
        return state.coast.guards(state.now, state.coast.stormOf(state.now.year));
    }

    public int wet() {
        return wetWithout(0);
    }

    // ---- what comes

    public int then(int m, int what) {
        if (!within(m, 0, MOST_AHEAD) || !within(what, 0, 4)) return refused(BAD, BAD);
        trial.now.copyOf(state.now);
        int flooded = 0;
        for (int i = 0; i < m; i++) flooded = runAhead(state.coast);
        return outcome(flooded, what);
    }

    public int firstLost() {
        if (state.now.lost() != 0) return state.now.year;
        trial.now.copyOf(state.now);
        for (int i = 0; i < MOST_AHEAD; i++) {
            int year = trial.now.year;
            runAhead(state.coast);
            if (trial.now.lost() != 0) return year;
        }
        return NONE;
    }

    public int offer(int from, int to, int m, int what) {
        if (!isCell(from) || !isCell(to) || from > to || !within(m, 1, MOST_PLANNED) || !within(what, 0, 1)) {
            return refused(BAD, BAD_OFFER);
        }
        if (state.coast.treatyCount >= MOST_TREATIES) return refused(NO, NO_OFFER);
        trial.coast.copyOf(state.coast);
        // Price by price: a dear treaty may breach others and be kept by what they free, so no price tells of another.
        int price = MOST_PRICE;
        while (!isKept(from, to, m, price) && price > 0) price--;
        return what == 0 ? price : floodings(state.coast, m) - floodings(trial.coast, m);
    }

    public int cheapest(int cells, int m, int what) {
        if (!isCells(cells) || !within(m, 1, MOST_PLANNED) || !within(what, 0, 1)) return refused(BAD, BAD_TEN);
        for (int feet = 0; feet <= MOST_DIKE; feet++) {
            for (int cell = 0; cell < state.coast.n; cell++) {
                if (staysDry(cells, m, cell, feet)) return what == 0 ? feet : cell;
            }
        }
        return NONE;
    }

    // ---- clauses, towns

    public int clashes(int i) {
        if (i < NONE) return refused(BAD, BAD_TEN);
        int found = 0;
        for (int one = 0; one < state.coast.treatyCount; one++) {
            for (int other = one + 1; other < state.coast.treatyCount; other++) {
                if (!clash(one, other)) continue;
                if (found == i) return 10 * one + other;
                found++;
            }
        }
        return i == NONE ? found : NOT_SO_MANY;
    }

    public int mend() {
        int sum = 0;
        for (int i = 0; i < state.coast.treatyCount; i++) {
            tillsAsCut[i] = tillBesideLesser(i);
            sum += state.coast.treaties[i].till - tillsAsCut[i];
        }
        return sum;
    }

    public int letsIn(int town, int what) {
        if (!isTown(town) || !within(what, 0, 1)) return refused(BAD, BAD);
        int own = state.coast.cellsOfTown(town);
        int more = wetWithout(own) & ~wetWithout(0);
        return state.worthOf(what == 0 ? more & own : more & ~own);
    }

    public int rests(int what) {
        if (!within(what, 0, 1)) return refused(BAD, BAD_TEN);
        int least = NONE;
        int found = 0;
        for (int keepers = 0; keepers < TOWN_SETS; keepers++) {
            if (!isRest(keepers)) continue;
            if (found == 0) least = keepers;
            found++;
        }
        return what == 0 ? found : least;
    }

    // ---- learnt, found

    public int tide(int k, int cell, boolean wet) {
        if (!within(k, 0, WANTS - 1) || !isCell(cell)) return refused(BAD, BAD);
        return told(state.coast.addTide(k, cell, wet));
    }

    public int learnt(int k, int what) {
        if (!within(k, 0, WANTS - 1) || !within(what, 0, 1)) return refused(BAD, BAD_TEN);
        int fitting = fittingWants(k);
        return what == 0 ? Integer.bitCount(fitting) : nextToTell(fitting);
    }

    public int shells(int cells, int what) {
        if (!isCells(cells) || !within(what, 0, 1)) return refused(BAD, BAD_TEN);
        int least = NONE;
        int found = 0;
        for (int line = 0; line <= state.coast.n; line++) {
            if (!lineFits(line, cells)) continue;
            if (found == 0) least = line;
            found++;
        }
        return what == 0 ? found : least;
    }

    public int vote(int m, int n, int what) {
        if (!within(m, 1, MOST_PLANNED) || !within(n, 0, 12) || !within(what, 0, 1)) return refused(BAD, BAD);
        trial.now.copyOf(state.now);
        for (int i = 0; i < m; i++) runAhead(state.coast);
        int leave = 0;
        int stay = 0;
        for (int cell = 0; cell < state.coast.n; cell++) {
            if (state.now.isLost(cell)) continue;
            int votes = state.coast.worths[cell] / 10;
            if (trial.now.floods[cell] - state.now.floods[cell] > n) leave += votes;
            else stay += votes;
        }
        return what == 0 ? leave : stay;
    }

    public int drawn(int m, int seed, int what) {
        if (!within(m, 0, MOST_AHEAD) || !within(seed, 0, MOST_SEED) || !within(what, 0, 4)) return refused(BAD, BAD);
        trial.now.copyOf(state.now);
        long x = seed;
        int flooded = 0;
        for (int i = 0; i < m; i++) {
            x = (x * 1103515245L + 12345L) % 2147483648L;
            int storm = (int) (x / 65536L % 16L) + state.coast.springMore(trial.now.year);
            flooded = state.coast.runYear(trial.now, storm);
        }
        return outcome(flooded, what);
    }

    public int burn(int what) {
        if (!within(what, 0, 1)) return refused(BAD, BAD);
        return told(what == 0 ? state.dropTreaties() : state.coast.dropTides());
    }

    // ---- what there is

    public int image(int i) {
        if (!within(i, 0, IMAGES - 1)) return refused(BAD, BAD);
        // Made at the first keeping: most objects never keep one, and an image is as large as the state.
        if (images[i] == null) images[i] = new State(state.coast.kinds);
        images[i].copyOf(state);
        return 1;
    }

    public int from(int i) {
        if (!within(i, 0, IMAGES - 1)) return refused(BAD, BAD);
        if (images[i] == null) return refused(NO, NO);
        state.copyOf(images[i]);
        return 1;
    }

    public int status(int what) {
        switch (what) {
            case 0: return badCalls;
            case 1: return noCalls;
            case 2: return fullCalls;
            default: return refused(BAD, -1);
        }
    }

    public int count(int what) {
        return within(what, 0, 7) ? amount(what) : refused(BAD, BAD);
    }

    public long digest() {
        long h = 907;
        for (int what = 0; what <= 7; what++) h = 31 * h + amount(what);
        h = state.coast.mixWants(h);
        h = state.mixCells(h);
        h = state.mixTreaties(h);
        return state.coast.mixTides(h);
    }

    // ---- helpers of the calls above

    private static boolean within(int x, int least, int most) {
        return least <= x && x <= most;
    }

    private boolean isCell(int cell) {
        return within(cell, 0, state.coast.n - 1);
    }

    private boolean isCells(int bits) {
        return within(bits, 0, (1 << state.coast.n) - 1);
    }

    private boolean isTreaty(int treaty) {
        return within(treaty, 0, state.coast.treatyCount - 1);
    }

    private static boolean isTown(int town) {
        return within(town, 0, TOWNS - 1);
    }

    /** Counts a call as refused for that reason; some calls answer another number than the reason's own. */
    private int refused(int reason, int answer) {
        if (reason == BAD) badCalls++;
        else if (reason == NO) noCalls++;
        else fullCalls++;
        return answer;
    }

    /** The end of each call that tells something: years ahead of what is told can't be undone. */
    private int told(int answer) {
        if (answer < 0) return refused(answer, answer);
        state.pastCount = 0;
        return answer;
    }

    private int amount(int what) {
        switch (what) {
            case 0: return state.coast.n;
            case 1: return state.now.year;
            case 2: return state.now.bells;
            case 3: return state.coast.moon;
            case 4: return state.coast.treatyCount;
            case 5: return state.coast.tideCount;
            case 6: return state.pastCount;
            default: return script.length;
        }
    }

    /** What would be flooded this year, were there no dikes at these cells. */
    private int wetWithout(int bare) {
        int storm = state.coast.stormOf(state.now.year);
        return state.coast.water(storm, state.coast.guards(state.now, storm), state.now.dikes, bare);
    }

    /** Runs the trial one year on over that coast: the cells flooded in it. */
    private int runAhead(Coast coast) {
        return coast.runYear(trial.now, coast.stormOf(trial.now.year));
    }

    private int outcome(int flooded, int what) {
        switch (what) {
            case 0: return trial.now.bells;
            case 1: return flooded;
            case 2: return trial.now.lost();
            case 3: return state.coast.worthOfAll(~trial.now.lost());
            default: return trial.now.breached;
        }
    }

    /** Leaves the treaty offered at that price as the last of the trial's. */
    private boolean isKept(int from, int to, int m, int price) {
        trial.coast.treatyCount = state.coast.treatyCount;
        int year = state.now.year;
        int offered = trial.coast.addTreaty(PLAIN, from, to, year, year + m, price);
        trial.now.copyOf(state.now);
        for (int i = 0; i < m; i++) {
            runAhead(trial.coast);
            if (trial.now.isBreached(offered)) return false;
        }
        return true;
    }

    private int floodings(Coast coast, int m) {
        trial.now.copyOf(state.now);
        int sum = 0;
        for (int i = 0; i < m; i++) sum += Integer.bitCount(runAhead(coast));
        return sum;
    }

    private boolean staysDry(int cells, int m, int raised, int feet) {
        if (state.now.dikes[raised] + feet > MOST_DIKE) return false;
        trial.now.copyOf(state.now);
        trial.now.dikes[raised] += feet;
        for (int i = 0; i < m; i++) {
            if ((runAhead(state.coast) & cells) != 0) return false;
        }
        return true;
    }

    private boolean clash(int i, int j) {
        Treaty one = state.coast.treaties[i];
        Treaty other = state.coast.treaties[j];
        return (one.cellBits() & other.cellBits()) != 0
            && Math.max(one.first, other.first) < Math.min(one.till, other.till);
    }

    /** Needs the tills as cut of all lesser ones. */
    private int tillBesideLesser(int i) {
        Treaty cut = state.coast.treaties[i];
        int till = cut.till;
        for (int j = 0; j < i; j++) {
            Treaty lesser = state.coast.treaties[j];
            int bothFrom = Math.max(cut.first, lesser.first);
            boolean shared = (cut.cellBits() & lesser.cellBits()) != 0;
            if (shared && bothFrom < Math.min(till, tillsAsCut[j])) till = bothFrom;
        }
        return till;
    }

    private boolean isRest(int keepers) {
        for (int town = 0; town < TOWNS; town++) {
            if (lossOf(town, keepers ^ (1 << town)) < lossOf(town, keepers)) return false;
        }
        return true;
    }

    private int lossOf(int town, int keepers) {
        int bare = 0;
        for (int other = 0; other < TOWNS; other++) {
            if ((keepers & (1 << other)) == 0) bare |= state.coast.cellsOfTown(other);
        }
        int own = state.coast.cellsOfTown(town);
        return state.now.feetOf(own & ~bare) + state.worthOf(wetWithout(bare) & own);
    }

    private int wetBy(int want) {
        return state.coast.water(want, 0, state.now.dikes, 0);
    }

    /** As bits, which want w may be by all tides told of k. */
    private int fittingWants(int k) {
        int fitting = 0;
        for (int w = 0; w <= MOST_WANT; w++) {
            if (state.coast.tidesFit(k, wetBy(w))) fitting |= 1 << w;
        }
        return fitting;
    }

    private int nextToTell(int fitting) {
        if (fitting == 0) return NONE;
        int all = Integer.bitCount(fitting);
        int best = NONE;
        int fewest = all + 1;
        for (int cell = 0; cell < state.coast.n; cell++) {
            int ifWet = countWetting(cell, fitting);
            int left = Math.max(ifWet, all - ifWet);
            if (left < fewest) {
                fewest = left;
                best = cell;
            }
        }
        return best;
    }

    private int countWetting(int cell, int wants) {
        int found = 0;
        for (int w = 0; w <= MOST_WANT; w++) {
            if ((wants & (1 << w)) != 0 && (wetBy(w) & (1 << cell)) != 0) found++;
        }
        return found;
    }

    private static boolean lineFits(int line, int shells) {
        if ((shells >> line) != 0) return false;
        return line < 2 || (shells >> (line - 2)) != 0;
    }

    // ---- treaties

    /** A kind of treaty: how high a storm it holds against, what it costs, what of that is due in a year. */
    private static class Plain {
        int holds(boolean spring) {
            return 8;
        }

        int costs(int price) {
            return price;
        }

        int due(int costs, int year) {
            return costs;
        }
    }

    private static class Oath extends Plain {
        int holds(boolean spring) {
            return super.holds(spring) + 3;
        }
    }

    private static final class ByMoon extends Plain {
        int holds(boolean spring) {
            return spring ? 15 : super.holds(spring);
        }
    }

    private static class Arrears extends Plain {
        int costs(int price) {
            return super.costs(price) + 1;
        }

        int due(int costs, int year) {
            return (year & 1) == 1 ? 2 * costs : 0;
        }
    }

    private static final class ForBells extends Oath {
        int costs(int price) {
            return 2 * super.costs(price);
        }
    }

    private static final class Disputed extends Arrears {
        int holds(boolean spring) {
            return super.holds(spring) / 2;
        }

        int costs(int price) {
            return (super.costs(price) + 1) / 2;
        }
    }

    private static final class Treaty {
        Plain terms;
        int kind;
        int from;
        int to;
        int first;
        int till;
        int price;
        /** By its kind and price: kept here since every year that runs asks for it. */
        int costs;

        Treaty(Plain plain) {
            terms = plain;
        }

        void copyOf(Treaty other) {
            terms = other.terms;
            kind = other.kind;
            from = other.from;
            to = other.to;
            first = other.first;
            till = other.till;
            price = other.price;
            costs = other.costs;
        }

        boolean runsIn(int year) {
            return first <= year && year < till;
        }

        int cellBits() {
            return (2 << to) - (1 << from);
        }
    }

    // ---- the coast and its years

    /** What years change, and nothing else: so a year is undone, or tried, by copying this alone. */
    private static final class Years {
        int year;
        int bells;
        int breached;
        final int[] dikes = new int[MOST_CELLS];
        final int[] floods = new int[MOST_CELLS];

        void begin() {
            year = 0;
            bells = BELLS_AT_FIRST;
            breached = 0;
            for (int cell = 0; cell < MOST_CELLS; cell++) {
                dikes[cell] = 0;
                floods[cell] = 0;
            }
        }

        void copyOf(Years other) {
            year = other.year;
            bells = other.bells;
            breached = other.breached;
            System.arraycopy(other.dikes, 0, dikes, 0, MOST_CELLS);
            System.arraycopy(other.floods, 0, floods, 0, MOST_CELLS);
        }

        boolean isBreached(int treaty) {
            return (breached & (1 << treaty)) != 0;
        }

        boolean isLost(int cell) {
            return floods[cell] >= FLOODS_TO_BE_LOST;
        }

        int lost() {
            int bits = 0;
            for (int cell = 0; cell < MOST_CELLS; cell++) {
                if (isLost(cell)) bits |= 1 << cell;
            }
            return bits;
        }

        int feetOf(int cells) {
            int feet = 0;
            for (int cell = 0; cell < MOST_CELLS; cell++) {
                if ((cells & (1 << cell)) != 0) feet += dikes[cell];
            }
            return feet;
        }

        void flood(int cell) {
            floods[cell]++;
            if (dikes[cell] > 0) dikes[cell]--;
        }
    }

    /** What is told and stays while years run. */
    private static final class Coast {
        final Plain[] kinds;
        int n;
        int moon;
        final int[] heights = new int[MOST_CELLS];
        final int[] worths = new int[MOST_CELLS];
        final int[] towns = new int[MOST_CELLS];
        final int[] wants = new int[WANTS];
        final Treaty[] treaties = new Treaty[MOST_TREATIES];
        int treatyCount;
        final int[] tideWants = new int[MOST_TIDES];
        final int[] tideCells = new int[MOST_TIDES];
        final int[] tideWets = new int[MOST_TIDES];
        int tideCount;

        Coast(Plain[] kinds) {
            this.kinds = kinds;
            for (int i = 0; i < MOST_TREATIES; i++) treaties[i] = new Treaty(kinds[0]);
        }

        void begin(int cells) {
            n = cells;
            moon = 4;
            treatyCount = 0;
            tideCount = 0;
            for (int cell = 0; cell < MOST_CELLS; cell++) setCell(cell, 2, 10, 0);
            for (int k = 0; k < WANTS; k++) wants[k] = 3;
        }

        void copyOf(Coast other) {
            n = other.n;
            moon = other.moon;
            System.arraycopy(other.heights, 0, heights, 0, MOST_CELLS);
            System.arraycopy(other.worths, 0, worths, 0, MOST_CELLS);
            System.arraycopy(other.towns, 0, towns, 0, MOST_CELLS);
            System.arraycopy(other.wants, 0, wants, 0, WANTS);
            treatyCount = other.treatyCount;
            for (int i = 0; i < treatyCount; i++) treaties[i].copyOf(other.treaties[i]);
            tideCount = other.tideCount;
            System.arraycopy(other.tideWants, 0, tideWants, 0, MOST_TIDES);
            System.arraycopy(other.tideCells, 0, tideCells, 0, MOST_TIDES);
            System.arraycopy(other.tideWets, 0, tideWets, 0, MOST_TIDES);
        }

        void setCell(int cell, int height, int worth, int town) {
            heights[cell] = height;
            worths[cell] = worth;
            towns[cell] = town;
        }

        /** Its number, or FULL. */
        int addTreaty(int kind, int from, int to, int first, int till, int price) {
            if (treatyCount >= MOST_TREATIES) return FULL;
            Treaty added = treaties[treatyCount];
            added.terms = kinds[kind];
            added.kind = kind;
            added.from = from;
            added.to = to;
            added.first = first;
            added.till = till;
            added.price = price;
            added.costs = added.terms.costs(price);
            treatyCount++;
            return treatyCount - 1;
        }

        /** How many there are, or FULL. */
        int addTide(int k, int cell, boolean wet) {
            if (tideCount >= MOST_TIDES) return FULL;
            tideWants[tideCount] = k;
            tideCells[tideCount] = cell;
            tideWets[tideCount] = wet ? 1 : 0;
            tideCount++;
            return tideCount;
        }

        int dropTides() {
            int had = tideCount;
            tideCount = 0;
            return had;
        }

        boolean isSpring(int year) {
            return moon > 0 && year % moon == 0;
        }

        int springMore(int year) {
            return isSpring(year) ? SPRING_MORE : 0;
        }

        int stormOf(int year) {
            return wants[year & (WANTS - 1)] + springMore(year);
        }

        int guards(Years now, int storm) {
            boolean spring = isSpring(now.year);
            int bits = 0;
            for (int i = 0; i < treatyCount; i++) {
                Treaty treaty = treaties[i];
                if (now.isBreached(i) || !treaty.runsIn(now.year)) continue;
                if (storm <= treaty.terms.holds(spring)) bits |= treaty.cellBits();
            }
            return bits;
        }

        /** The cells that the water comes into, with the dikes of the bare ones left out. */
        int water(int storm, int guarded, int[] dikes, int bare) {
            int flooded = 0;
            for (int cell = 0; cell < n; cell++) {
                int bit = 1 << cell;
                int top = heights[cell] + ((bare & bit) != 0 ? 0 : dikes[cell]);
                if (storm <= top || (guarded & bit) != 0) break;
                flooded |= bit;
            }
            return flooded;
        }

        private void payDues(Years now) {
            for (int i = 0; i < treatyCount; i++) {
                Treaty treaty = treaties[i];
                if (now.isBreached(i) || !treaty.runsIn(now.year)) continue;
                int due = treaty.terms.due(treaty.costs, now.year);
                if (due <= now.bells) now.bells -= due;
                else now.breached |= 1 << i;
            }
        }

        /** Runs the year that it is: the cells flooded in it. */
        int runYear(Years now, int storm) {
            payDues(now);
            int flooded = water(storm, guards(now, storm), now.dikes, 0);
            int earned = 0;
            for (int cell = 0; cell < n; cell++) {
                if ((flooded & (1 << cell)) != 0) now.flood(cell);
                else if (!now.isLost(cell)) earned += worths[cell] / 10;
            }
            now.bells = Math.min(MOST_BELLS, now.bells + earned);
            now.year++;
            return flooded;
        }

        int cellsOfTown(int town) {
            int bits = 0;
            for (int cell = 0; cell < n; cell++) {
                if (towns[cell] == town) bits |= 1 << cell;
            }
            return bits;
        }

        int worthOfAll(int cells) {
            int sum = 0;
            for (int cell = 0; cell < n; cell++) {
                if ((cells & (1 << cell)) != 0) sum += worths[cell];
            }
            return sum;
        }

        boolean tidesFit(int k, int wet) {
            for (int i = 0; i < tideCount; i++) {
                if (tideWants[i] == k && ((wet >> tideCells[i]) & 1) != tideWets[i]) return false;
            }
            return true;
        }

        long mixWants(long h) {
            for (int k = 0; k < WANTS; k++) h = 31 * h + wants[k];
            return h;
        }

        long mixTides(long h) {
            for (int i = 0; i < tideCount; i++) {
                h = 31 * h + tideWants[i];
                h = 31 * h + tideCells[i];
                h = 31 * h + tideWets[i];
            }
            return h;
        }
    }

    /** All that an image keeps. */
    private static final class State {
        final Coast coast;
        final Years now = new Years();
        final Years[] past = new Years[MOST_PAST];
        int pastCount;

        State(Plain[] kinds) {
            coast = new Coast(kinds);
            coast.begin(CELLS_AT_FIRST);
            now.begin();
            for (int i = 0; i < MOST_PAST; i++) past[i] = new Years();
        }

        void copyOf(State other) {
            coast.copyOf(other.coast);
            now.copyOf(other.now);
            pastCount = other.pastCount;
            for (int i = 0; i < pastCount; i++) past[i].copyOf(other.past[i]);
        }

        void keepPast() {
            if (pastCount == MOST_PAST) forgetOldest();
            past[pastCount].copyOf(now);
            pastCount++;
        }

        private void forgetOldest() {
            Years oldest = past[0];
            for (int i = 1; i < MOST_PAST; i++) past[i - 1] = past[i];
            past[MOST_PAST - 1] = oldest;
            pastCount--;
        }

        boolean stepBack() {
            if (pastCount == 0) return false;
            pastCount--;
            now.copyOf(past[pastCount]);
            return true;
        }

        private boolean isCellOfIt(int cell) {
            return within(cell, 0, coast.n - 1);
        }

        int tellCoast(int n) {
            if (!within(n, 1, MOST_CELLS)) return BAD;
            int was = coast.n;
            coast.begin(n);
            now.begin();
            return was;
        }

        int tellCell(int cell, int height, int worth, int town) {
            if (!isCellOfIt(cell) || !within(height, 0, MOST_HEIGHT)) return BAD;
            if (!within(worth, 0, MOST_WORTH) || !isTown(town)) return BAD;
            int was = coast.heights[cell];
            coast.setCell(cell, height, worth, town);
            now.floods[cell] = 0;
            return was;
        }

        int tellDike(int cell, int feet) {
            if (!isCellOfIt(cell) || !within(feet, 0, MOST_DIKE)) return BAD;
            int was = now.dikes[cell];
            now.dikes[cell] = feet;
            return was;
        }

        int tellWant(int k, int height) {
            if (!within(k, 0, WANTS - 1) || !within(height, 0, MOST_WANT)) return BAD;
            int was = coast.wants[k];
            coast.wants[k] = height;
            return was;
        }

        int tellMoon(int years) {
            if (!within(years, 1, MOST_MOON)) return BAD;
            int was = coast.moon;
            coast.moon = years;
            return was;
        }

        int tellTreaty(int kind, int from, int to, int first, int till, int price) {
            if (!within(kind, 0, KINDS - 1) || !within(price, 0, MOST_PRICE)) return BAD;
            if (!isCellOfIt(from) || !isCellOfIt(to) || from > to) return BAD;
            if (!within(first, 0, MOST_TREATY_YEAR) || !within(till, 0, MOST_TREATY_YEAR)) return BAD;
            return coast.addTreaty(kind, from, to, first, till, price);
        }

        int dropTreaties() {
            int had = coast.treatyCount;
            coast.treatyCount = 0;
            now.breached = 0;
            return had;
        }

        /** What is lost counts for nothing. */
        int worthOf(int cells) {
            return coast.worthOfAll(cells & ~now.lost());
        }

        long mixCells(long h) {
            for (int cell = 0; cell < coast.n; cell++) {
                h = 31 * h + coast.heights[cell];
                h = 31 * h + coast.worths[cell];
                h = 31 * h + coast.towns[cell];
                h = 31 * h + now.dikes[cell];
                h = 31 * h + now.floods[cell];
            }
            return h;
        }

        long mixTreaties(long h) {
            for (int i = 0; i < coast.treatyCount; i++) {
                Treaty treaty = coast.treaties[i];
                h = 31 * h + treaty.kind;
                h = 31 * h + treaty.from;
                h = 31 * h + treaty.to;
                h = 31 * h + treaty.first;
                h = 31 * h + treaty.till;
                h = 31 * h + treaty.price;
                h = 31 * h + (now.isBreached(i) ? 1 : 0);
            }
            return h;
        }
    }

    // ---- the text

    /** The text and the items last read from it. */
    private static final class Script {
        private static final int COAST = 0, CELL = 1, DIKE = 2, WANT = 3, MOON = 4, TREATY = 5;
        /** How many numbers stand behind each word. */
        private static final int[] NUMBERS_BEHIND = {1, 4, 2, 2, 1, 6};
        private static final int MOST_NUMBERS = 6, MOST_FIGURES = 2;
        /** The shortest item has six bytes (moon4;): a text holds no more of them. */
        private static final int MOST_ITEMS = MOST_TEXT / 6;
        /** In place of how many numbers are still due: an item may begin here. */
        private static final int WORD_DUE = -1;

        final int[] bytes = new int[MOST_TEXT];
        int length;
        int items;
        /** Six places an item, also where it has fewer numbers. */
        private final int[] numbers = new int[MOST_ITEMS * MOST_NUMBERS];
        private final int[] words = new int[MOST_ITEMS];
        private int place;
        private int due;

        /** The fault's place, NONE if there is no fault. */
        int parse() {
            items = 0;
            place = 0;
            due = WORD_DUE;
            for (int tokens = 0; tokens < MOST_TEXT; tokens++) {
                skipBlanks();
                if (place >= length) break;
                int start = place;
                if (!takeToken(bytes[place])) return start;
            }
            return due == WORD_DUE && items > 0 ? NONE : length;
        }

        private void skipBlanks() {
            while (place < length && bytes[place] == ' ') place++;
        }

        private boolean takeToken(int firstByte) {
            if (isLetter(firstByte)) return takeWord();
            if (isFigure(firstByte)) return takeNumber();
            return firstByte == ';' && takeEnd();
        }

        private static boolean isLetter(int c) {
            return within(c, 'a', 'z');
        }

        private static boolean isFigure(int c) {
            return within(c, '0', '9');
        }

        private boolean takeWord() {
            int start = place;
            while (place < length && isLetter(bytes[place])) place++;
            int word = wordAt(start, place);
            if (due != WORD_DUE || word == NONE || items >= MOST_ITEMS) return false;
            if ((word == COAST) != (items == 0)) return false;
            words[items] = word;
            due = NUMBERS_BEHIND[word];
            return true;
        }

        private int wordAt(int start, int end) {
            if (spells("coast", start, end)) return COAST;
            if (spells("cell", start, end)) return CELL;
            if (spells("dike", start, end)) return DIKE;
            if (spells("want", start, end)) return WANT;
            if (spells("moon", start, end)) return MOON;
            return spells("treaty", start, end) ? TREATY : NONE;
        }

        private boolean spells(String word, int start, int end) {
            if (word.length() != end - start) return false;
            for (int i = start; i < end; i++) {
                if (bytes[i] != word.charAt(i - start)) return false;
            }
            return true;
        }

        private boolean takeNumber() {
            int start = place;
            int value = 0;
            while (place < length && isFigure(bytes[place])) {
                value = 10 * value + bytes[place] - '0';
                place++;
            }
            if (due <= 0 || place - start > MOST_FIGURES) return false;
            int index = NUMBERS_BEHIND[words[items]] - due;
            numbers[items * MOST_NUMBERS + index] = value;
            due--;
            return true;
        }

        private boolean takeEnd() {
            if (due != 0) return false;
            place++;
            items++;
            due = WORD_DUE;
            return true;
        }

        /** Tells one item read: its call's answer, below 0 if it is refused. */
        int tellItem(State to, int item) {
            int at = item * MOST_NUMBERS;
            int x = numbers[at];
            int y = numbers[at + 1];
            int z = numbers[at + 2];
            int u = numbers[at + 3];
            switch (words[item]) {
                case COAST: return to.tellCoast(x);
                case CELL: return to.tellCell(x, y, z, u);
                case DIKE: return to.tellDike(x, y);
                case WANT: return to.tellWant(x, y);
                case MOON: return to.tellMoon(x);
                default: return to.tellTreaty(x, y, z, u, numbers[at + 4], numbers[at + 5]);
            }
        }
    }
}
