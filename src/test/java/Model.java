import java.util.HashMap;
import java.util.Map;
import java.util.regex.Matcher;
import java.util.regex.Pattern;

/**
 * The document told a second time, by other means than the class uses: texts by patterns, growth by
 * looking back over all days, the quickest by what is left to do, odds by going every route.
 */
final class Model {
    static final int UNKNOWN = -1, OUTSIDE = -2, STATE = -3, FULL = -4, NONE = -9;
    static final long LOST = Long.MIN_VALUE;

    int streets = 0;
    int plants = 0;
    int[] season = new int[0];
    boolean[][] met = new boolean[0][0];
    int[] kind = new int[0];
    int[][] wants = new int[0][0];
    int readings = 0;
    final int[][] read = new int[8][2];
    final int[] laneOf = {-1, -1, -1, -1};
    final int[][] cells = new int[4][];
    int trace = 0;
    int fault = 0;

    // ---- 1 the city

    int city(int sheet, int lane, int i, int n) {
        fault = 0;
        if (sheet < 0 || sheet > 3) {
            return UNKNOWN;
        }
        if (lane < 0 || lane > 2) {
            return OUTSIDE;
        }
        fault = faultOf(sheet, lane, i, n);
        if (fault != 0) {
            return -10 - fault;
        }
        StringBuilder text = new StringBuilder();
        for (int k = 0; k < n; k++) {
            int code = cells[sheet][i + k];
            text.append(code > 0 && code < 128 ? (char) code : '?');
        }
        int first = firstFault(text.toString());
        if (first >= 0) {
            return -100 - first;
        }
        take(text.toString());
        return plants;
    }

    /** The length of the longest beginning that some text has too; -1 if it is a text itself. */
    private static int firstFault(String text) {
        for (int length = 0; length <= text.length(); length++) {
            String begin = text.substring(0, length);
            boolean whole = false;
            boolean goesOn = false;
            for (int y = 2; y <= 6; y++) {
                Matcher matcher = pattern(y).matcher(begin);
                boolean matches = matcher.matches();
                whole |= matches;
                goesOn |= matches || matcher.hitEnd();
            }
            if (!goesOn) {
                return length - 1;
            }
            if (length == text.length()) {
                return whole ? -1 : length;
            }
        }
        return -1;
    }

    private static final Map<Integer, Pattern> PATTERNS = new HashMap<>();

    private static Pattern pattern(int y) {
        return PATTERNS.computeIfAbsent(y, Model::newPattern);
    }

    private static Pattern newPattern(int y) {
        StringBuilder pairs = new StringBuilder();
        for (int a = 0; a < y; a++) {
            for (int b = 0; b < y; b++) {
                if (a != b) {
                    pairs.append(pairs.length() == 0 ? "" : "|").append(a).append(b);
                }
            }
        }
        return Pattern.compile("y" + y + "[0-3]{" + y + "}(-(" + pairs + ")){0,9}(,[psw][0-3]{3}){1,3}");
    }

    private void take(String text) {
        streets = text.charAt(1) - '0';
        season = digits(text.substring(2, 2 + streets));
        met = new boolean[streets][streets];
        String[] parts = text.substring(2 + streets).split(",");
        for (String pair : parts[0].split("-")) {
            if (!pair.isEmpty()) {
                met[pair.charAt(0) - '0'][pair.charAt(1) - '0'] = true;
                met[pair.charAt(1) - '0'][pair.charAt(0) - '0'] = true;
            }
        }
        plants = parts.length - 1;
        kind = new int[plants];
        wants = new int[plants][];
        for (int p = 0; p < plants; p++) {
            kind[p] = "psw".indexOf(parts[p + 1].charAt(0));
            wants[p] = digits(parts[p + 1].substring(1));
        }
        readings = 0;
    }

    private static int[] digits(String text) {
        return text.chars().map(c -> c - '0').toArray();
    }

    int ofStreet(int s, int what) {
        if (!street(s)) {
            return UNKNOWN;
        }
        if (what == 0) {
            return season[s];
        }
        if (what != 1) {
            return OUTSIDE;
        }
        int set = 0;
        for (int t = 0; t < streets; t++) {
            set += met[s][t] ? 1 << t : 0;
        }
        return set;
    }

    int ofPlant(int p, int what) {
        if (!plant(p)) {
            return UNKNOWN;
        }
        if (what < 0 || what > 3) {
            return OUTSIDE;
        }
        return what == 0 ? kind[p] : wants[p][what - 1];
    }

    int let(int s, int v) {
        if (!street(s)) {
            return UNKNOWN;
        }
        if (v < 0 || v > 3) {
            return OUTSIDE;
        }
        int was = season[s];
        season[s] = v;
        return was;
    }

    int corner(int a, int b, boolean is) {
        if (!street(a) || !street(b) || a == b) {
            return UNKNOWN;
        }
        int changed = met[a][b] != is ? 1 : 0;
        met[a][b] = is;
        met[b][a] = is;
        return changed;
    }

    int many(int what) {
        if (what < 0 || what > 3) {
            return OUTSIDE;
        }
        int corners = 0;
        for (int a = 0; a < streets; a++) {
            for (int b = a + 1; b < streets; b++) {
                corners += met[a][b] ? 1 : 0;
            }
        }
        return new int[] {plants, streets, corners, readings}[what];
    }

    private boolean street(int s) {
        return s >= 0 && s < streets;
    }

    private boolean plant(int p) {
        return p >= 0 && p < plants;
    }

    // ---- 2 routes

    int route(int sheet, int lane, int i, int n, int what) {
        fault = 0;
        if (sheet < 0 || sheet > 3) {
            return UNKNOWN;
        }
        int tens = Math.floorDiv(what, 10);
        int ones = Math.floorMod(what, 10);
        if (lane < 0 || lane > 2 || n < 0 || n > 24 || tens < 0 || tens > 2 || ones > 2) {
            return OUTSIDE;
        }
        int why = whyNoRoute(sheet, lane, i, n);
        return why != 0 ? why : ofRoute(routeOf(sheet, i, n), what);
    }

    private int whyNoRoute(int sheet, int lane, int i, int n) {
        fault = faultOf(sheet, lane, i, n);
        if (fault != 0) {
            return -10 - fault;
        }
        if (streets == 0) {
            return STATE;
        }
        for (int street : routeOf(sheet, i, n)) {
            if (!street(street)) {
                return UNKNOWN;
            }
        }
        return 0;
    }

    private int[] routeOf(int sheet, int i, int n) {
        int[] route = new int[n];
        System.arraycopy(cells[sheet], i, route, 0, n);
        return route;
    }

    private int ofRoute(int[] route, int what) {
        int wrong = NONE;
        int colds = 0;
        for (int day = route.length - 1; day > 0; day--) {
            int a = route[day - 1];
            int b = route[day];
            wrong = a != b && !met[a][b] ? day : wrong;
            colds += cold(a, b);
        }
        if (what == 1 || wrong != NONE) {
            return what == 1 ? wrong : -100 - wrong;
        }
        if (what == 2) {
            return colds;
        }
        if (what == 0) {
            int set = 0;
            for (int p = 0; p < plants; p++) {
                set += ripeDay(p, route) != NONE ? 1 << p : 0;
            }
            return set;
        }
        if (!plant(what % 10)) {
            return NONE;
        }
        return what < 20 ? ripeDay(what % 10, route) : stage(what % 10, route, route.length);
    }

    private int cold(int a, int b) {
        return new int[] {0, 1, 2, 1}[Math.floorMod(season[a] - season[b], 4)];
    }

    /** The stage ahead of a day, by all the days ahead of it. */
    private int stage(int p, int[] route, int days) {
        int stage = 0;
        int changedOn = -1;
        for (int day = 0; day < days && stage < 3; day++) {
            int want = wants[p][stage];
            boolean comes = season[route[day]] == want;
            if (kind[p] == 1) {
                comes = comes && day - 1 > changedOn && season[route[day - 1]] == want;
            }
            if (kind[p] == 2) {
                comes = comes || season[route[day]] == (want + 1) % 4;
            }
            if (comes) {
                stage++;
                changedOn = day;
            }
        }
        return stage;
    }

    private int ripeDay(int p, int[] route) {
        for (int day = 0; day < route.length; day++) {
            if (stage(p, route, day + 1) == 3) {
                return day;
            }
        }
        return NONE;
    }

    // ---- 3 the quickest, the mildest

    int quickest(int set, int from, int k) {
        if (!street(from)) {
            return UNKNOWN;
        }
        if (set < 0 || set >= 1 << plants || k < -1 || k > 23) {
            return OUTSIDE;
        }
        String row = quickestRow(set, from, 24);
        if (k == -1) {
            return row == null ? NONE : row.length();
        }
        return row == null || k >= row.length() ? NONE : row.charAt(k) - '0';
    }

    String quickestRow(int set, int from, int most) {
        Map<String, Boolean> known = new HashMap<>();
        int[] none = new int[2 * plants];
        for (int days = 0; days <= most; days++) {
            if (can(set, none, -1, from, days, known)) {
                return row(set, from, days, known);
            }
        }
        return null;
    }

    /** The first row of so many days, street by street: each the least by which it still can be. */
    private String row(int set, int from, int days, Map<String, Boolean> known) {
        StringBuilder row = new StringBuilder();
        int[] grown = new int[2 * plants];
        int here = -1;
        for (int left = days; left > 0; left--) {
            for (int to = 0; to < streets; to++) {
                int[] then = behind(grown, to);
                if (goes(here, to, from) && can(set, then, to, from, left - 1, known)) {
                    row.append(to);
                    grown = then;
                    here = to;
                    break;
                }
            }
        }
        return row.toString();
    }

    private boolean goes(int here, int to, int from) {
        return here == -1 ? to == from : here == to || met[here][to];
    }

    private boolean can(int set, int[] grown, int here, int from, int left, Map<String, Boolean> known) {
        boolean all = true;
        for (int p = 0; p < plants; p++) {
            all &= (set >> p & 1) == 0 || grown[2 * p] == 3;
        }
        if (all || left == 0) {
            return all;
        }
        String key = java.util.Arrays.toString(grown) + here + "/" + left;
        Boolean is = known.get(key);
        if (is == null) {
            is = false;
            for (int to = 0; to < streets && !is; to++) {
                is = goes(here, to, from) && can(set, behind(grown, to), to, from, left - 1, known);
            }
            known.put(key, is);
        }
        return is;
    }

    /** Stages, and whether the day is the first of two, behind a day more. */
    private int[] behind(int[] grown, int street) {
        int[] then = grown.clone();
        for (int p = 0; p < plants; p++) {
            if (grown[2 * p] == 3) {
                continue;
            }
            int want = wants[p][grown[2 * p]];
            boolean fits = season[street] == want || kind[p] == 2 && season[street] == (want + 1) % 4;
            boolean comes = fits && (kind[p] != 1 || grown[2 * p + 1] == 1);
            then[2 * p] += comes ? 1 : 0;
            then[2 * p + 1] = fits && !comes ? 1 : 0;
        }
        return then;
    }

    private int[][] milds() {
        int[][] milds = new int[streets][streets];
        for (int a = 0; a < streets; a++) {
            for (int b = 0; b < streets; b++) {
                milds[a][b] = a == b ? 0 : met[a][b] ? cold(a, b) : 99;
            }
        }
        for (int by = 0; by < streets; by++) {
            for (int a = 0; a < streets; a++) {
                for (int b = 0; b < streets; b++) {
                    milds[a][b] = Math.min(milds[a][b], milds[a][by] + milds[by][b]);
                }
            }
        }
        return milds;
    }

    int mild(int a, int b) {
        if (!street(a) || !street(b)) {
            return UNKNOWN;
        }
        int mild = milds()[a][b];
        return mild >= 99 ? NONE : mild;
    }

    int best() {
        if (streets == 0) {
            return STATE;
        }
        int best = NONE;
        int fewest = 99;
        for (int s = 0; s < streets; s++) {
            int most = java.util.Arrays.stream(milds()[s]).max().getAsInt();
            if (most < fewest) {
                best = s;
                fewest = most;
            }
        }
        return best;
    }

    // ---- 4 when it was ripe

    int reading(int p, int day) {
        if (!plant(p)) {
            return UNKNOWN;
        }
        if (day != NONE && (day < 0 || day > 23)) {
            return OUTSIDE;
        }
        if (readings == 8) {
            return FULL;
        }
        read[readings] = new int[] {p, day};
        return readings++;
    }

    int back(int k) {
        if (k < 0 || k > readings) {
            return OUTSIDE;
        }
        readings -= k;
        return readings;
    }

    int seasons(int s, int sheet, int lane, int i, int n) {
        return fit(street(s), 0, s, 0, sheet, lane, i, n);
    }

    int kinds(int p, int sheet, int lane, int i, int n) {
        return fit(plant(p), 1, p, 0, sheet, lane, i, n);
    }

    int wishes(int p, int t, int sheet, int lane, int i, int n) {
        return fit(plant(p), 2, p, t, sheet, lane, i, n);
    }

    private int fit(boolean known, int asked, int which, int t, int sheet, int lane, int i, int n) {
        fault = 0;
        if (!known || sheet < 0 || sheet > 3) {
            return UNKNOWN;
        }
        if (t < 0 || t > 2 || lane < 0 || lane > 2 || n < 0 || n > 24) {
            return OUTSIDE;
        }
        int why = whyNoRoute(sheet, lane, i, n);
        if (why != 0) {
            return why;
        }
        int[] route = routeOf(sheet, i, n);
        int[] told = asked == 0 ? season : asked == 1 ? kind : wants[which];
        int place = asked == 2 ? t : which;
        int was = told[place];
        int set = 0;
        for (int v = 0; v < (asked == 1 ? 3 : 4); v++) {
            told[place] = v;
            boolean so = true;
            for (int r = 0; r < readings; r++) {
                so &= ripeDay(read[r][0], route) == read[r][1];
            }
            set += so ? 1 << v : 0;
        }
        told[place] = was;
        return set;
    }

    long odds(int p, int from, int n, int which) {
        if (!plant(p) || !street(from) || n < 1 || n > 6 || which < 0 || which > 1) {
            return LOST;
        }
        long[] share = new long[2];
        go(p, new int[n], 0, from, share);
        for (long by = share[1]; by > 1; by--) {
            if (share[0] % by == 0 && share[1] % by == 0) {
                return share[which] / by;
            }
        }
        return share[which];
    }

    private void go(int p, int[] route, int day, int street, long[] share) {
        route[day] = street;
        if (day == route.length - 1) {
            share[0] += stage(p, route, route.length) == 3 ? 1 : 0;
            share[1]++;
            return;
        }
        for (int to = 0; to < streets; to++) {
            if (to == street || met[street][to]) {
                go(p, route, day + 1, to, share);
            }
        }
    }

    // ---- 5 sheets, parts

    private int faultOf(int sheet, int lane, int i, int n) {
        if (cells[sheet] == null) {
            return 1;
        }
        if (laneOf[sheet] != lane) {
            return 2;
        }
        if (n < 0) {
            return 4;
        }
        return isPart(cells[sheet], i, n) ? 0 : 3;
    }

    private static boolean isPart(int[] row, long i, long n) {
        return i >= 0 && n >= 0 && i + n <= row.length;
    }

    int sheet(int k, int lane, int n) {
        fault = 0;
        if (k < 0 || k > 3) {
            return UNKNOWN;
        }
        if (lane < 0 || lane > 2 || n > 60) {
            return OUTSIDE;
        }
        if (n < 0) {
            fault = 4;
            return -14;
        }
        laneOf[k] = lane;
        cells[k] = new int[n];
        return 1;
    }

    int lose(int k) {
        if (k < 0 || k > 3) {
            return UNKNOWN;
        }
        int had = cells[k] == null ? 0 : 1;
        cells[k] = null;
        return had;
    }

    int put(int k, int i, int v) {
        fault = 0;
        if (k < 0 || k > 3) {
            return UNKNOWN;
        }
        fault = cells[k] == null ? 1 : isPart(cells[k], i, 1) ? 0 : 3;
        if (fault != 0) {
            return -10 - fault;
        }
        cells[k][i] = laneOf[k] == 0 ? (byte) v : laneOf[k] == 1 ? (short) v : v;
        return 1;
    }

    long cell(int k, int i, int lane) {
        fault = 0;
        if (k < 0 || k > 3 || lane < 0 || lane > 2) {
            return LOST;
        }
        fault = faultOf(k, lane, i, 1);
        return fault != 0 ? LOST : cells[k][i];
    }

    int copy(int k, int i, int other, int j, int n) {
        fault = 0;
        if (k < 0 || k > 3 || other < 0 || other > 3) {
            return UNKNOWN;
        }
        if (cells[k] == null || cells[other] == null) {
            fault = 1;
        } else if (laneOf[k] != laneOf[other]) {
            fault = 2;
        } else if (!isPart(cells[k], i, n) || !isPart(cells[other], j, n)) {
            fault = 3;
        }
        if (fault != 0) {
            return -10 - fault;
        }
        int[] taken = cells[k].clone();
        for (int c = 0; c < n; c++) {
            cells[other][j + c] = taken[i + c];
        }
        return n;
    }

    int tell(int p) {
        if (!plant(p)) {
            return UNKNOWN;
        }
        int first = wants[p][0];
        leave(new String[] {"1", "21", "3211"}[kind[p]]);
        return new int[] {first, first + 100, first + 100 + first}[kind[p]];
    }

    int label(int p) {
        if (!plant(p)) {
            return UNKNOWN;
        }
        leave(kind[p] == 2 ? "5" : "4");
        return kind[p] == 2 ? 30 : p;
    }

    private void leave(String bodies) {
        for (int body : digits(bodies)) {
            trace = 31 * trace + body;
        }
    }

    int as(int p, int as) {
        fault = 0;
        if (!plant(p)) {
            return UNKNOWN;
        }
        if (as < 0 || as > 2) {
            return OUTSIDE;
        }
        fault = as <= kind[p] ? 0 : 2;
        return fault == 0 ? 1 : -12;
    }
}
