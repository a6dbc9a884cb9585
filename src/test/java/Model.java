import java.util.ArrayList;
import java.util.List;
import java.util.regex.Matcher;
import java.util.regex.Pattern;

/**
 * The document read once more, without care for speed or rows: what RandomRunsTest compares the class with.
 * It shares no line with the class: cells, treaties and tides are rows of numbers, all is copied whole.
 */
final class Model {
    private static final int BAD = -2, NO = -3, FULL = -4;

    /** height, worth, town, dike, floods */
    private List<int[]> cells = new ArrayList<>();
    /** kind, from, to, first, till, price, breached */
    private List<int[]> treaties = new ArrayList<>();
    /** k, cell, wet */
    private List<int[]> tides = new ArrayList<>();
    private int[] wants = {3, 3, 3, 3, 3, 3, 3, 3};
    private int moon = 4;
    private int bells = 50;
    private int year = 0;
    private List<Model> past = new ArrayList<>();

    private String text = "";
    private Model[] images = new Model[2];
    private int[] status = new int[3];

    Model(int n) {
        for (int i = 0; i < n; i++) cells.add(new int[] {2, 10, 0, 0, 0});
    }

    private static List<int[]> rows(List<int[]> from) {
        List<int[]> to = new ArrayList<>();
        for (int[] row : from) to.add(row.clone());
        return to;
    }

    private Model copy() {
        Model m = new Model(0);
        m.become(this);
        return m;
    }

    private void become(Model m) {
        cells = rows(m.cells);
        treaties = rows(m.treaties);
        tides = rows(m.tides);
        wants = m.wants.clone();
        moon = m.moon;
        bells = m.bells;
        year = m.year;
        past = new ArrayList<>();
        for (Model p : m.past) past.add(p.copy());
    }

    private int refuse(int reason, int answer) {
        status[-2 - reason]++;
        return answer;
    }

    private int bad() {
        return refuse(BAD, BAD);
    }

    private static boolean out(int x, int low, int high) {
        return x < low || x > high;
    }

    private boolean noCell(int c) {
        return out(c, 0, cells.size() - 1);
    }

    int coast(int n) {
        if (out(n, 1, 8)) return bad();
        int was = cells.size();
        become(new Model(n));
        return was;
    }

    int cell(int c, int height, int worth, int town) {
        if (noCell(c) || out(height, 0, 9) || out(worth, 0, 99) || out(town, 0, 2)) return bad();
        past.clear();
        int[] cell = cells.get(c);
        return cells.set(c, new int[] {height, worth, town, cell[3], 0})[0];
    }

    int dike(int c, int n) {
        if (noCell(c) || out(n, 0, 9)) return bad();
        past.clear();
        int was = cells.get(c)[3];
        cells.get(c)[3] = n;
        return was;
    }

    int want(int k, int n) {
        if (out(k, 0, 7) || out(n, 0, 15)) return bad();
        past.clear();
        int was = wants[k];
        wants[k] = n;
        return was;
    }

    int moon(int n) {
        if (out(n, 1, 9)) return bad();
        past.clear();
        int was = moon;
        moon = n;
        return was;
    }

    int bells(int n) {
        if (out(n, 0, 999)) return bad();
        past.clear();
        int was = bells;
        bells = n;
        return was;
    }

    int treaty(int kind, int from, int to, int first, int till, int price) {
        if (out(kind, 0, 5) || noCell(from) || noCell(to) || from > to) return bad();
        if (out(first, 0, 99) || out(till, 0, 99) || out(price, 0, 20)) return bad();
        if (treaties.size() == 6) return refuse(FULL, FULL);
        past.clear();
        treaties.add(new int[] {kind, from, to, first, till, price, 0});
        return treaties.size() - 1;
    }

    int end(int t) {
        if (out(t, 0, treaties.size() - 1)) return bad();
        int[] treaty = treaties.get(t);
        if (treaty[4] <= year || treaty[3] > year) return refuse(NO, NO);
        past.clear();
        treaty[4] = year;
        return 1;
    }

    int type(int c) {
        if (out(c, 0, 127)) return bad();
        if (text.length() == 150) return refuse(FULL, FULL);
        text += (char) c;
        return text.length();
    }

    int clear() {
        int had = text.length();
        text = "";
        return had;
    }

    private static final String ITEMS = "coast:1 cell:4 dike:2 want:2 moon:1 treaty:6 ";

    int read() {
        Matcher m = Pattern.compile("[a-z]+|[0-9]+|[^ ]").matcher(text);
        List<List<String>> items = new ArrayList<>();
        List<String> item = null;
        int size = 0;
        while (m.find()) {
            String token = m.group();
            int fault = -10 - m.start();
            if (item == null) {
                int at = (" " + ITEMS).indexOf(" " + token + ":");
                if (at < 0 || !token.matches("[a-z]+") || token.equals("coast") != items.isEmpty()) return fault;
                size = ITEMS.charAt(at + token.length() + 1) - '0';
                item = new ArrayList<>();
                item.add(token);
            } else if (item.size() <= size) {
                if (!token.matches("[0-9]{1,2}")) return fault;
                item.add(token);
            } else {
                if (!token.equals(";")) return fault;
                items.add(item);
                item = null;
            }
        }
        if (item != null || items.isEmpty()) return -10 - text.length();
        Model told = new Model(1);
        for (int i = 0; i < items.size(); i++) {
            if (told.tell(items.get(i)) < 0) return -1000 - i;
        }
        become(told);
        return items.size();
    }

    private int tell(List<String> item) {
        int[] v = new int[7];
        for (int i = 1; i < item.size(); i++) v[i] = Integer.parseInt(item.get(i));
        switch (item.get(0)) {
            case "coast": return coast(v[1]);
            case "cell": return cell(v[1], v[2], v[3], v[4]);
            case "dike": return dike(v[1], v[2]);
            case "want": return want(v[1], v[2]);
            case "moon": return moon(v[1]);
            default: return treaty(v[1], v[2], v[3], v[4], v[5], v[6]);
        }
    }

    private boolean spring(int y) {
        return y % moon == 0;
    }

    private int stormOf(int y) {
        return wants[y % 8] + (spring(y) ? 2 : 0);
    }

    private int holds(int[] t) {
        int[] plain = {8, 11, spring(year) ? 15 : 8, 8, 11, 4};
        return plain[t[0]];
    }

    private int costs(int[] t) {
        int p = t[5];
        int[] all = {p, p, p, p + 1, 2 * p, (p + 2) / 2};
        return all[t[0]];
    }

    private int due(int[] t) {
        boolean arrears = t[0] == 3 || t[0] == 5;
        if (!arrears) return costs(t);
        return year % 2 == 1 ? 2 * costs(t) : 0;
    }

    private boolean inForce(int[] t) {
        return t[3] <= year && year < t[4] && t[6] == 0;
    }

    private boolean guardedCell(int c, int storm) {
        for (int[] t : treaties) {
            if (inForce(t) && t[1] <= c && c <= t[2] && storm <= holds(t)) return true;
        }
        return false;
    }

    private int flood(int storm, boolean guards) {
        int bits = 0;
        for (int c = 0; c < cells.size(); c++) {
            boolean in = storm > cells.get(c)[0] + cells.get(c)[3] && !(guards && guardedCell(c, storm));
            if (!in) return bits;
            bits |= 1 << c;
        }
        return bits;
    }

    private boolean lost(int c) {
        return cells.get(c)[4] >= 3;
    }

    private int run(int storm) {
        for (int[] t : treaties) {
            if (!inForce(t)) continue;
            if (due(t) > bells) t[6] = 1;
            else bells -= due(t);
        }
        int wet = flood(storm, true);
        for (int c = 0; c < cells.size(); c++) {
            int[] cell = cells.get(c);
            if ((wet >> c & 1) == 1) {
                cell[4]++;
                cell[3] = Math.max(0, cell[3] - 1);
            } else if (!lost(c)) {
                bells = Math.min(999, bells + cell[1] / 10);
            }
        }
        year++;
        return wet;
    }

    int year(int n) {
        if (out(n, 1, 9)) return bad();
        if (year > 900) return refuse(NO, NO);
        for (int i = 0; i < n; i++) {
            List<Model> before = past;
            past = new ArrayList<>();
            Model now = copy();
            past = before;
            past.add(now);
            if (past.size() > 6) past.remove(0);
            run(stormOf(year));
        }
        return bells;
    }

    int undo() {
        if (past.isEmpty()) return refuse(NO, NO);
        List<Model> left = past;
        Model last = left.remove(left.size() - 1);
        become(last);
        past = left;
        return 1;
    }

    int of(int c, int what) {
        if (noCell(c) || out(what, 0, 5)) return bad();
        return what < 5 ? cells.get(c)[what] : lost(c) ? 1 : 0;
    }

    int about(int t, int what) {
        if (out(t, 0, treaties.size() - 1) || out(what, 0, 4)) return bad();
        int[] treaty = treaties.get(t);
        int[] all = {treaty[0], costs(treaty), holds(treaty), treaty[6], treaty[4]};
        return all[what];
    }

    int storm(int y) {
        return out(y, 0, 999) ? bad() : stormOf(y);
    }

    int guarded() {
        int bits = 0;
        for (int c = 0; c < cells.size(); c++) if (guardedCell(c, stormOf(year))) bits |= 1 << c;
        return bits;
    }

    int wet() {
        return flood(stormOf(year), true);
    }

    private int lostBits() {
        int bits = 0;
        for (int c = 0; c < cells.size(); c++) if (lost(c)) bits |= 1 << c;
        return bits;
    }

    private int outcome(int wet, int what) {
        int worth = 0;
        int breached = 0;
        for (int c = 0; c < cells.size(); c++) worth += lost(c) ? 0 : cells.get(c)[1];
        for (int t = 0; t < treaties.size(); t++) breached |= treaties.get(t)[6] << t;
        int[] all = {bells, wet, lostBits(), worth, breached};
        return all[what];
    }

    int then(int m, int what) {
        if (out(m, 0, 30) || out(what, 0, 4)) return bad();
        Model f = copy();
        int wet = 0;
        for (int i = 0; i < m; i++) wet = f.run(f.stormOf(f.year));
        return f.outcome(wet, what);
    }

    int firstLost() {
        if (lostBits() != 0) return year;
        for (int m = 1; m <= 30; m++) if (then(m, 2) != 0) return year + m - 1;
        return -1;
    }

    private int floodings(int m) {
        Model f = copy();
        int sum = 0;
        for (int i = 0; i < m; i++) sum += Integer.bitCount(f.run(f.stormOf(f.year)));
        return sum;
    }

    int offer(int from, int to, int m, int what) {
        if (noCell(from) || noCell(to) || from > to || out(m, 1, 12) || out(what, 0, 1)) return refuse(BAD, -1000);
        if (treaties.size() == 6) return refuse(NO, -2000);
        int best = -1;
        for (int price = 0; price <= 20; price++) {
            Model f = copy();
            f.treaties.add(new int[] {0, from, to, year, year + m, price, 0});
            if (f.then(m, 4) >> treaties.size() == 0) best = price;
        }
        if (what == 0) return best;
        Model f = copy();
        f.treaties.add(new int[] {0, from, to, year, year + m, best, 0});
        return floodings(m) - f.floodings(m);
    }

    int cheapest(int told, int m, int what) {
        if (out(told, 0, (1 << cells.size()) - 1) || out(m, 1, 12) || out(what, 0, 1)) return refuse(BAD, -10);
        int best = -1;
        int fewest = 99;
        for (int c = 0; c < cells.size(); c++) {
            for (int feet = 0; cells.get(c)[3] + feet <= 9; feet++) {
                Model f = copy();
                f.cells.get(c)[3] += feet;
                int wet = 0;
                for (int i = 0; i < m; i++) wet |= f.run(f.stormOf(f.year));
                if ((wet & told) == 0 && feet < fewest) {
                    fewest = feet;
                    best = c;
                }
            }
        }
        return best < 0 ? -1 : what == 0 ? fewest : best;
    }

    private static boolean share(int[] a, int[] b) {
        for (int c = 0; c < 8; c++) {
            if (out(c, a[1], a[2]) || out(c, b[1], b[2])) continue;
            for (int y = 0; y < 100; y++) {
                if (a[3] <= y && y < a[4] && b[3] <= y && y < b[4]) return true;
            }
        }
        return false;
    }

    int clashes(int i) {
        if (i < -1) return refuse(BAD, -10);
        List<Integer> all = new ArrayList<>();
        for (int a = 0; a < treaties.size(); a++) {
            for (int b = a + 1; b < treaties.size(); b++) {
                if (share(treaties.get(a), treaties.get(b))) all.add(10 * a + b);
            }
        }
        if (i == -1) return all.size();
        return i < all.size() ? all.get(i) : -5;
    }

    int mend() {
        List<int[]> cut = rows(treaties);
        int sum = 0;
        for (int j = 0; j < cut.size(); j++) {
            boolean clash = true;
            while (clash) {
                clash = false;
                for (int i = 0; i < j; i++) clash |= share(cut.get(i), cut.get(j));
                if (clash) {
                    cut.get(j)[4]--;
                    sum++;
                }
            }
        }
        return sum;
    }

    /** Cells flooded this year if only these towns keep their dikes. */
    private int wetIfKept(int towns) {
        Model f = copy();
        for (int[] cell : f.cells) if ((towns >> cell[2] & 1) == 0) cell[3] = 0;
        return f.wet();
    }

    private int worth(int wet, int town, boolean own) {
        int sum = 0;
        for (int c = 0; c < cells.size(); c++) {
            if ((wet >> c & 1) == 1 && !lost(c) && (cells.get(c)[2] == town) == own) sum += cells.get(c)[1];
        }
        return sum;
    }

    int letsIn(int town, int what) {
        if (out(town, 0, 2) || out(what, 0, 1)) return bad();
        return worth(wetIfKept(7 - (1 << town)), town, what == 0) - worth(wet(), town, what == 0);
    }

    private int loss(int towns, int town) {
        int feet = 0;
        for (int[] cell : cells) if (cell[2] == town) feet += cell[3];
        return ((towns >> town & 1) == 1 ? feet : 0) + worth(wetIfKept(towns), town, true);
    }

    int rests(int what) {
        if (out(what, 0, 1)) return refuse(BAD, -10);
        List<Integer> all = new ArrayList<>();
        for (int set = 0; set < 8; set++) {
            boolean rest = true;
            for (int t = 0; t < 3; t++) rest &= loss(set, t) <= loss(set ^ 1 << t, t);
            if (rest) all.add(set);
        }
        return what == 0 ? all.size() : all.isEmpty() ? -1 : all.get(0);
    }

    int tide(int k, int c, boolean wet) {
        if (out(k, 0, 7) || noCell(c)) return bad();
        if (tides.size() == 6) return refuse(FULL, FULL);
        past.clear();
        tides.add(new int[] {k, c, wet ? 1 : 0});
        return tides.size();
    }

    private int fits(int k, List<int[]> told) {
        int many = 0;
        for (int w = 0; w < 16; w++) {
            boolean fit = true;
            for (int[] t : told) fit &= t[0] != k || (flood(w, false) >> t[1] & 1) == t[2];
            if (fit) many++;
        }
        return many;
    }

    int learnt(int k, int what) {
        if (out(k, 0, 7) || out(what, 0, 1)) return refuse(BAD, -10);
        if (what == 0) return fits(k, tides);
        int best = -1;
        int fewest = 99;
        for (int c = 0; c < cells.size(); c++) {
            int worst = 0;
            for (int wet = 0; wet < 2; wet++) {
                List<int[]> more = rows(tides);
                more.add(new int[] {k, c, wet});
                worst = Math.max(worst, fits(k, more));
            }
            if (worst < fewest) {
                fewest = worst;
                best = c;
            }
        }
        return fits(k, tides) == 0 ? -1 : best;
    }

    int shells(int bits, int what) {
        int n = cells.size();
        if (out(bits, 0, (1 << n) - 1) || out(what, 0, 1)) return refuse(BAD, -10);
        List<Integer> all = new ArrayList<>();
        for (int k = 0; k <= n; k++) {
            boolean fit = true;
            for (int c = k; c < n; c++) fit &= (bits >> c & 1) == 0;
            if (k >= 2) fit &= (bits >> (k - 1) & 1) + (bits >> (k - 2) & 1) > 0;
            if (fit) all.add(k);
        }
        return what == 0 ? all.size() : all.isEmpty() ? -1 : all.get(0);
    }

    int vote(int m, int n, int what) {
        if (out(m, 1, 12) || out(n, 0, 12) || out(what, 0, 1)) return bad();
        Model f = copy();
        int[] times = new int[8];
        for (int i = 0; i < m; i++) {
            int wet = f.run(f.stormOf(f.year));
            for (int c = 0; c < 8; c++) times[c] += wet >> c & 1;
        }
        int sum = 0;
        for (int c = 0; c < cells.size(); c++) {
            if (!lost(c) && (times[c] > n) == (what == 0)) sum += cells.get(c)[1] / 10;
        }
        return sum;
    }

    int drawn(int m, int seed, int what) {
        if (out(m, 0, 30) || out(seed, 0, 999999) || out(what, 0, 4)) return bad();
        Model f = copy();
        java.math.BigInteger x = java.math.BigInteger.valueOf(seed);
        int wet = 0;
        for (int i = 0; i < m; i++) {
            x = x.multiply(java.math.BigInteger.valueOf(1103515245)).add(java.math.BigInteger.valueOf(12345));
            x = x.mod(java.math.BigInteger.valueOf(2147483648L));
            wet = f.run(x.intValue() / 65536 % 16 + (f.spring(f.year) ? 2 : 0));
        }
        return f.outcome(wet, what);
    }

    int burn(int what) {
        if (out(what, 0, 1)) return bad();
        past.clear();
        List<int[]> burnt = what == 0 ? treaties : tides;
        int had = burnt.size();
        burnt.clear();
        return had;
    }

    int image(int i) {
        if (out(i, 0, 1)) return bad();
        images[i] = copy();
        return 1;
    }

    int from(int i) {
        if (out(i, 0, 1)) return bad();
        if (images[i] == null) return refuse(NO, NO);
        become(images[i]);
        return 1;
    }

    int status(int what) {
        return out(what, 0, 2) ? refuse(BAD, -1) : status[what];
    }

    private int[] counts() {
        return new int[] {cells.size(), year, bells, moon, treaties.size(), tides.size(), past.size(), text.length()};
    }

    int count(int what) {
        return out(what, 0, 7) ? bad() : counts()[what];
    }

    long digest() {
        List<int[]> all = new ArrayList<>();
        all.add(counts());
        all.add(wants);
        all.addAll(cells);
        all.addAll(treaties);
        all.addAll(tides);
        long h = 907;
        for (int[] row : all) for (int v : row) h = 31 * h + v;
        return h;
    }
}
