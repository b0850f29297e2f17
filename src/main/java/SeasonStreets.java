import java.util.Arrays;

/** A city with one season in each street, and the plants that a barrow wheels through it. */
public final class SeasonStreets {
    public static final int UNKNOWN = -1, OUTSIDE = -2, STATE = -3, FULL = -4, NONE = -9;
    public static final long LOST = Long.MIN_VALUE;

    private static final int FAULT_NULL = 1, FAULT_CAST = 2, FAULT_INDEX = 3, FAULT_SIZE = 4;
    private static final int SHRUB = 1, WEED = 2, KINDS = 3;
    private static final int SEASONS = 4, STAGES = 3;
    private static final int MOST_STREETS = 6, MOST_CORNERS = 9, MOST_PLANTS = 3;
    private static final int MOST_DAYS = 24, MOST_CHANCE_DAYS = 6, MOST_READINGS = 8;
    private static final int SHEETS = 4, LANES = 3, MOST_CELLS = 60;

    // A plant's growth is told in half stages, so that a shrub's first day of two has a number too.
    private static final int RIPE = 2 * STAGES;
    // Growths lie side by side in a number's bits, a street above them: a state of a barrow.
    private static final int GROWTH_BITS = 3, GROWTH_MASK = (1 << GROWTH_BITS) - 1;
    private static final int ALL_BITS = GROWTH_BITS * MOST_PLANTS, ALL_MASK = (1 << ALL_BITS) - 1;
    private static final int ALL_RIPE = RIPE | RIPE << GROWTH_BITS | RIPE << 2 * GROWTH_BITS;
    private static final int SEARCH_STATES = MOST_STREETS << ALL_BITS;
    private static final int CHANCE_STATES = MOST_STREETS << GROWTH_BITS;

    // More than any way through six streets costs, and far from an int's end.
    private static final int FAR = 1000;

    private City city = new City();
    // A text is read into the draft, so that one with a fault leaves the city as it is.
    private City draft = new City();
    private final Reader reader = new Reader();
    private final Search search = new Search();
    private final Chance chance = new Chance();
    private final Sheet[] sheets = new Sheet[SHEETS];
    private final int[] way = new int[MOST_DAYS];
    private final int[] ripeOn = new int[MOST_PLANTS];
    private final int[] coldsTo = new int[MOST_STREETS];
    private final int[] readPlant = new int[MOST_READINGS];
    private final int[] readDay = new int[MOST_READINGS];
    private int readings = 0;
    private int traced = 0;
    private int latestFault = 0;

    public SeasonStreets() {
        for (int k = 0; k < SHEETS; k++) {
            sheets[k] = new Sheet();
        }
    }

    // ---- 1 the city

    public int city(int sheet, int lane, int i, int n) {
        if (!isSheet(sheet)) {
            return refuse(UNKNOWN);
        }
        if (!isLane(lane)) {
            return refuse(OUTSIDE);
        }
        int fault = sheets[sheet].faultOfTaking(lane, i, n);
        if (fault != 0) {
            return comeTo(fault);
        }
        latestFault = 0;
        reader.begin(sheets[sheet].cells, i, n);
        if (!reader.readsCity(draft)) {
            return -100 - reader.place;
        }
        City told = draft;
        draft = city;
        city = told;
        readings = 0;
        return city.plants;
    }

    public int ofStreet(int s, int what) {
        if (!city.hasStreet(s)) {
            return UNKNOWN;
        }
        if (what < 0 || what > 1) {
            return OUTSIDE;
        }
        return what == 0 ? city.season[s] : city.corners[s];
    }

    public int ofPlant(int p, int what) {
        if (!city.hasPlant(p)) {
            return UNKNOWN;
        }
        if (what < 0 || what > STAGES) {
            return OUTSIDE;
        }
        return what == 0 ? city.kind[p] : city.wants[p][what - 1];
    }

    public int let(int s, int v) {
        if (!city.hasStreet(s)) {
            return UNKNOWN;
        }
        if (v < 0 || v >= SEASONS) {
            return OUTSIDE;
        }
        int was = city.season[s];
        city.season[s] = v;
        return was;
    }

    public int corner(int a, int b, boolean is) {
        if (!city.hasStreet(a) || !city.hasStreet(b) || a == b) {
            return UNKNOWN;
        }
        if (city.hasCorner(a, b) == is) {
            return 0;
        }
        city.setCorner(a, b, is);
        return 1;
    }

    // ---- 2 routes

    public int route(int sheet, int lane, int i, int n, int what) {
        if (!isSheet(sheet)) {
            return refuse(UNKNOWN);
        }
        if (!isLane(lane) || !isRouteLength(n) || !isRouteQuestion(what)) {
            return refuse(OUTSIDE);
        }
        int why = takeWay(sheet, lane, i, n);
        return why != 0 ? why : ofWay(n, what);
    }

    private static boolean isRouteLength(int n) {
        return n >= 0 && n <= MOST_DAYS;
    }

    private static boolean isRouteQuestion(int what) {
        return (what >= 0 && what <= 2) || (what >= 10 && what <= 12) || (what >= 20 && what <= 22);
    }

    /** Takes n cells as the way: 0, or why it can't be taken, which fault() knows then. */
    private int takeWay(int sheet, int lane, int i, int n) {
        int fault = sheets[sheet].faultOfTaking(lane, i, n);
        if (fault != 0) {
            return comeTo(fault);
        }
        latestFault = 0;
        if (city.streets == 0) {
            return STATE;
        }
        for (int day = 0; day < n; day++) {
            int street = sheets[sheet].cells[i + day];
            if (!city.hasStreet(street)) {
                return UNKNOWN;
            }
            way[day] = street;
        }
        return 0;
    }

    private int ofWay(int n, int what) {
        int wrong = firstWrong(n);
        if (what == 1) {
            return wrong;
        }
        if (wrong != NONE) {
            return -100 - wrong;
        }
        if (what == 0) {
            return ripeAtEnd(n);
        }
        if (what == 2) {
            return coldsOfWay(n);
        }
        int p = what % 10;
        if (!city.hasPlant(p)) {
            return NONE;
        }
        return what < 20 ? ripeDay(p, n) : growthAtEnd(p, n) / 2;
    }

    private int firstWrong(int n) {
        for (int day = 1; day < n; day++) {
            if (!city.canStep(way[day - 1], way[day])) {
                return day;
            }
        }
        return NONE;
    }

    private int ripeAtEnd(int n) {
        int set = 0;
        for (int p = 0; p < city.plants; p++) {
            if (growthAtEnd(p, n) == RIPE) {
                set |= 1 << p;
            }
        }
        return set;
    }

    private int coldsOfWay(int n) {
        int colds = 0;
        for (int day = 1; day < n; day++) {
            colds += city.coldsOfStep(way[day - 1], way[day]);
        }
        return colds;
    }

    private int growthAtEnd(int p, int n) {
        int growth = 0;
        for (int day = 0; day < n; day++) {
            growth = city.grown(p, growth, city.season[way[day]]);
        }
        return growth;
    }

    private int ripeDay(int p, int n) {
        int growth = 0;
        for (int day = 0; day < n; day++) {
            growth = city.grown(p, growth, city.season[way[day]]);
            if (growth == RIPE) {
                return day;
            }
        }
        return NONE;
    }

    // ---- 3 the quickest, the mildest

    public int quickest(int set, int from, int k) {
        if (!city.hasStreet(from)) {
            return UNKNOWN;
        }
        if (set < 0 || set >= 1 << city.plants || k < -1 || k >= MOST_DAYS) {
            return OUTSIDE;
        }
        int days = search.quickestDays(city, set, from);
        if (k == -1) {
            return days;
        }
        return k < days ? search.found[k] : NONE;
    }

    public int mild(int a, int b) {
        if (!city.hasStreet(a) || !city.hasStreet(b)) {
            return UNKNOWN;
        }
        spreadColds(a);
        return coldsTo[b] == FAR ? NONE : coldsTo[b];
    }

    public int best() {
        if (city.streets == 0) {
            return STATE;
        }
        int best = NONE;
        int fewest = FAR;
        for (int s = 0; s < city.streets; s++) {
            int most = mostColds(s);
            if (most < fewest) {
                fewest = most;
                best = s;
            }
        }
        return best;
    }

    private int mostColds(int from) {
        spreadColds(from);
        int most = 0;
        for (int s = 0; s < city.streets; s++) {
            most = Math.max(most, coldsTo[s]);
        }
        return most;
    }

    private void spreadColds(int from) {
        Arrays.fill(coldsTo, FAR);
        coldsTo[from] = 0;
        // A mildest way has fewer steps than there are streets, so as many turns find it.
        for (int turn = 1; turn < city.streets; turn++) {
            for (int a = 0; a < city.streets; a++) {
                spreadColdsByCorners(a);
            }
        }
    }

    private void spreadColdsByCorners(int a) {
        if (coldsTo[a] == FAR) {
            return;
        }
        for (int b = 0; b < city.streets; b++) {
            if (city.hasCorner(a, b)) {
                coldsTo[b] = Math.min(coldsTo[b], coldsTo[a] + city.coldsOfStep(a, b));
            }
        }
    }

    // ---- 4 when it was ripe

    public int reading(int p, int day) {
        if (!city.hasPlant(p)) {
            return UNKNOWN;
        }
        if (day != NONE && (day < 0 || day >= MOST_DAYS)) {
            return OUTSIDE;
        }
        if (readings >= MOST_READINGS) {
            return FULL;
        }
        readPlant[readings] = p;
        readDay[readings] = day;
        readings++;
        return readings - 1;
    }

    public int back(int k) {
        if (k < 0 || k > readings) {
            return OUTSIDE;
        }
        readings -= k;
        return readings;
    }

    public int seasons(int s, int sheet, int lane, int i, int n) {
        if (!city.hasStreet(s)) {
            return refuse(UNKNOWN);
        }
        int why = takeReadWay(sheet, lane, i, n);
        return why != 0 ? why : fitting(city.season, s, SEASONS, n);
    }

    public int kinds(int p, int sheet, int lane, int i, int n) {
        if (!city.hasPlant(p)) {
            return refuse(UNKNOWN);
        }
        int why = takeReadWay(sheet, lane, i, n);
        return why != 0 ? why : fitting(city.kind, p, KINDS, n);
    }

    public int wishes(int p, int t, int sheet, int lane, int i, int n) {
        if (!city.hasPlant(p) || !isSheet(sheet)) {
            return refuse(UNKNOWN);
        }
        if (t < 0 || t >= STAGES) {
            return refuse(OUTSIDE);
        }
        int why = takeReadWay(sheet, lane, i, n);
        return why != 0 ? why : fitting(city.wants[p], t, SEASONS, n);
    }

    public long odds(int p, int from, int n, int which) {
        if (!city.hasPlant(p) || !city.hasStreet(from)) {
            return LOST;
        }
        if (n < 1 || n > MOST_CHANCE_DAYS || which < 0 || which > 1) {
            return LOST;
        }
        chance.go(city, p, from, n);
        int common = greatestDivisor(chance.routes, chance.ripeRoutes);
        // There is always a route that stays, so there is a divisor above 0.
        if (common < 1) {
            return LOST;
        }
        return (which == 0 ? chance.ripeRoutes : chance.routes) / common;
    }

    /** Takes n cells as the way that readings are held against: 0, or why it can't be taken. */
    private int takeReadWay(int sheet, int lane, int i, int n) {
        if (!isSheet(sheet)) {
            return refuse(UNKNOWN);
        }
        if (!isLane(lane) || !isRouteLength(n)) {
            return refuse(OUTSIDE);
        }
        return takeWay(sheet, lane, i, n);
    }

    /** The values below a limit, as a set, that a place of the city's rows could have by all readings. */
    private int fitting(int[] row, int place, int limit, int n) {
        int was = row[place];
        int set = 0;
        for (int v = 0; v < limit; v++) {
            row[place] = v;
            if (readingsAreSo(n)) {
                set |= 1 << v;
            }
        }
        row[place] = was;
        return set;
    }

    private boolean readingsAreSo(int n) {
        for (int p = 0; p < city.plants; p++) {
            ripeOn[p] = ripeDay(p, n);
        }
        for (int r = 0; r < readings; r++) {
            if (ripeOn[readPlant[r]] != readDay[r]) {
                return false;
            }
        }
        return true;
    }

    private static int greatestDivisor(int a, int b) {
        int high = a;
        int low = b;
        for (int turn = 0; turn < 64 && low > 0; turn++) {
            int rest = high % low;
            high = low;
            low = rest;
        }
        return high;
    }

    // ---- 5 sheets, parts

    public int sheet(int k, int lane, int n) {
        if (!isSheet(k)) {
            return refuse(UNKNOWN);
        }
        if (!isLane(lane) || n > MOST_CELLS) {
            return refuse(OUTSIDE);
        }
        if (n < 0) {
            return comeTo(FAULT_SIZE);
        }
        latestFault = 0;
        sheets[k].renew(lane, n);
        return 1;
    }

    public int lose(int k) {
        if (!isSheet(k)) {
            return UNKNOWN;
        }
        int had = sheets[k].has ? 1 : 0;
        sheets[k].has = false;
        return had;
    }

    public int put(int k, int i, int v) {
        if (!isSheet(k)) {
            return refuse(UNKNOWN);
        }
        if (!sheets[k].has) {
            return comeTo(FAULT_NULL);
        }
        if (!sheets[k].hasCells(i, 1)) {
            return comeTo(FAULT_INDEX);
        }
        latestFault = 0;
        sheets[k].cells[i] = sheets[k].cut(v);
        return 1;
    }

    public long cell(int k, int i, int lane) {
        if (!isSheet(k) || !isLane(lane)) {
            latestFault = 0;
            return LOST;
        }
        latestFault = sheets[k].faultOfTaking(lane, i, 1);
        return latestFault != 0 ? LOST : sheets[k].cells[i];
    }

    public int copy(int k, int i, int other, int j, int n) {
        if (!isSheet(k) || !isSheet(other)) {
            return refuse(UNKNOWN);
        }
        Sheet from = sheets[k];
        Sheet to = sheets[other];
        if (!from.has || !to.has) {
            return comeTo(FAULT_NULL);
        }
        if (from.lane != to.lane) {
            return comeTo(FAULT_CAST);
        }
        if (n < 0 || !from.hasCells(i, n) || !to.hasCells(j, n)) {
            return comeTo(FAULT_INDEX);
        }
        latestFault = 0;
        System.arraycopy(from.cells, i, to.cells, j, n);
        return n;
    }

    public int tell(int p) {
        if (!city.hasPlant(p)) {
            return UNKNOWN;
        }
        if (city.kind[p] == WEED) {
            return tellWeed(p);
        }
        return city.kind[p] == SHRUB ? tellShrub(p) : tellPlant(p);
    }

    public int label(int p) {
        if (!city.hasPlant(p)) {
            return UNKNOWN;
        }
        return city.kind[p] == WEED ? labelWeed() : labelLent(p);
    }

    public int as(int p, int kind) {
        if (!city.hasPlant(p)) {
            return refuse(UNKNOWN);
        }
        if (kind < 0 || kind >= KINDS) {
            return refuse(OUTSIDE);
        }
        // Each kind is also all kinds of lesser number.
        if (city.kind[p] < kind) {
            return comeTo(FAULT_CAST);
        }
        latestFault = 0;
        return 1;
    }

    public int trace() {
        return traced;
    }

    public int fault() {
        return latestFault;
    }

    public int many(int what) {
        switch (what) {
            case 0:
                return city.plants;
            case 1:
                return city.streets;
            case 2:
                return city.countCorners();
            case 3:
                return readings;
            default:
                return OUTSIDE;
        }
    }

    private int tellPlant(int p) {
        leave(1);
        return city.wants[p][0];
    }

    private int tellShrub(int p) {
        leave(2);
        return tellPlant(p) + 100;
    }

    private int tellWeed(int p) {
        leave(3);
        int asShrub = tellShrub(p);
        return asShrub + tellPlant(p);
    }

    private int labelLent(int p) {
        leave(4);
        return p;
    }

    private int labelWeed() {
        leave(5);
        return 30;
    }

    private void leave(int number) {
        traced = 31 * traced + number;
    }

    private static boolean isSheet(int k) {
        return k >= 0 && k < SHEETS;
    }

    private static boolean isLane(int lane) {
        return lane >= 0 && lane < LANES;
    }

    /** The answer of a refused call whose line names faults: it came to none. */
    private int refuse(int why) {
        latestFault = 0;
        return why;
    }

    private int comeTo(int fault) {
        latestFault = fault;
        return -10 - fault;
    }

    /** Streets with their seasons and corners, and plants; without streets it is no city. */
    private static final class City {
        private int streets = 0;
        private int plants = 0;
        private final int[] season = new int[MOST_STREETS];
        private final int[] corners = new int[MOST_STREETS];
        private final int[] kind = new int[MOST_PLANTS];
        private final int[][] wants = new int[MOST_PLANTS][STAGES];

        private boolean hasStreet(int s) {
            return s >= 0 && s < streets;
        }

        private boolean hasPlant(int p) {
            return p >= 0 && p < plants;
        }

        private boolean hasCorner(int a, int b) {
            return (corners[a] >> b & 1) == 1;
        }

        private boolean canStep(int a, int b) {
            return a == b || hasCorner(a, b);
        }

        private void setCorner(int a, int b, boolean is) {
            if (is) {
                corners[a] |= 1 << b;
                corners[b] |= 1 << a;
            } else {
                corners[a] &= ~(1 << b);
                corners[b] &= ~(1 << a);
            }
        }

        private int countCorners() {
            int ends = 0;
            for (int s = 0; s < streets; s++) {
                ends += Integer.bitCount(corners[s]);
            }
            return ends / 2;
        }

        private int coldsOfStep(int a, int b) {
            int apart = Math.abs(season[a] - season[b]);
            return Math.min(apart, SEASONS - apart);
        }

        /** What a plant's growth is behind a day in a season. */
        private int grown(int p, int growth, int daySeason) {
            if (growth < 0 || growth >= RIPE) {
                return RIPE;
            }
            int stage = growth / 2;
            boolean suits = isWanted(p, stage, daySeason);
            if (kind[p] == SHRUB) {
                return suits ? growth + 1 : 2 * stage;
            }
            return suits ? growth + 2 : growth;
        }

        private boolean isWanted(int p, int stage, int daySeason) {
            int wanted = wants[p][stage];
            if (daySeason == wanted) {
                return true;
            }
            return kind[p] == WEED && daySeason == (wanted + 1) % SEASONS;
        }
    }

    /** Reads a text of a city code by code; where it stops is the first fault. */
    private static final class Reader {
        private int[] cells = new int[0];
        private int first = 0;
        private int codes = 0;
        private int place = 0;

        private void begin(int[] row, int i, int n) {
            cells = row;
            first = i;
            codes = n;
            place = 0;
        }

        private boolean readsCity(City into) {
            return readsStreets(into) && readsCorners(into) && readsPlants(into) && place == codes;
        }

        private boolean readsStreets(City into) {
            if (!takes('y')) {
                return false;
            }
            int streets = takeDigit(2, MOST_STREETS);
            if (streets < 0) {
                return false;
            }
            into.streets = streets;
            for (int s = 0; s < streets; s++) {
                into.corners[s] = 0;
            }
            return readsSeasons(into.season, streets);
        }

        private boolean readsSeasons(int[] row, int n) {
            for (int k = 0; k < n; k++) {
                int v = takeDigit(0, SEASONS - 1);
                if (v < 0) {
                    return false;
                }
                row[k] = v;
            }
            return true;
        }

        private boolean readsCorners(City into) {
            for (int told = 0; told < MOST_CORNERS && takes('-'); told++) {
                int a = takeDigit(0, into.streets - 1);
                if (a < 0 || sees('0' + a)) {
                    return false;
                }
                int b = takeDigit(0, into.streets - 1);
                if (b < 0) {
                    return false;
                }
                into.setCorner(a, b, true);
            }
            return true;
        }

        private boolean readsPlants(City into) {
            into.plants = 0;
            for (int p = 0; p < MOST_PLANTS && takes(','); p++) {
                int kind = takeKind();
                if (kind < 0 || !readsSeasons(into.wants[p], STAGES)) {
                    return false;
                }
                into.kind[p] = kind;
                into.plants = p + 1;
            }
            return into.plants > 0;
        }

        private int takeKind() {
            if (takes('p')) {
                return 0;
            }
            if (takes('s')) {
                return SHRUB;
            }
            return takes('w') ? WEED : -1;
        }

        private boolean sees(int code) {
            int at = first + place;
            return place < codes && at >= 0 && at < cells.length && cells[at] == code;
        }

        private boolean takes(int code) {
            if (!sees(code)) {
                return false;
            }
            place++;
            return true;
        }

        /** The digit that is taken, or -1 if there is none of those. */
        private int takeDigit(int least, int most) {
            for (int digit = least; digit <= most; digit++) {
                if (takes('0' + digit)) {
                    return digit;
                }
            }
            return -1;
        }
    }

    /**
     * Goes through all states of a barrow (its street, its plants' growths) day by day. States wait
     * in the order of their routes as rows, so the first with all ripe has the first route.
     */
    private static final class Search {
        private final int[] waiting = new int[SEARCH_STATES];
        private final int[] before = new int[SEARCH_STATES];
        private final int[] days = new int[SEARCH_STATES];
        private final int[] found = new int[MOST_DAYS];
        private int waitingEnd = 0;

        /** How many days it takes, or NONE; the streets of these days are found then. */
        private int quickestDays(City city, int set, int from) {
            if (set == 0) {
                return 0;
            }
            Arrays.fill(days, 0);
            waitingEnd = 0;
            come(behindDay(city, startOf(set), from), -1, 1);
            for (int at = 0; at < waitingEnd && at < SEARCH_STATES; at++) {
                int state = waiting[at];
                if ((state & ALL_MASK) == ALL_RIPE) {
                    return tellFound(state);
                }
                if (days[state] < MOST_DAYS) {
                    goOn(city, state);
                }
            }
            return NONE;
        }

        /** All growths ahead of day 0; a plant that is not asked for counts as ripe. */
        private static int startOf(int set) {
            int growths = 0;
            for (int p = 0; p < MOST_PLANTS; p++) {
                boolean asked = (set >> p & 1) == 1;
                growths |= asked ? 0 : RIPE << GROWTH_BITS * p;
            }
            return growths;
        }

        private void goOn(City city, int state) {
            int here = state >> ALL_BITS;
            for (int to = 0; to < city.streets; to++) {
                if (city.canStep(here, to)) {
                    come(behindDay(city, state, to), state, days[state] + 1);
                }
            }
        }

        private static int behindDay(City city, int state, int street) {
            int next = street << ALL_BITS;
            for (int p = 0; p < MOST_PLANTS; p++) {
                int growth = state >> GROWTH_BITS * p & GROWTH_MASK;
                next |= city.grown(p, growth, city.season[street]) << GROWTH_BITS * p;
            }
            return next;
        }

        private void come(int state, int from, int day) {
            if (state < 0 || state >= SEARCH_STATES || waitingEnd >= SEARCH_STATES) {
                return;
            }
            if (days[state] != 0) {
                return;
            }
            days[state] = day;
            before[state] = from;
            waiting[waitingEnd] = state;
            waitingEnd++;
        }

        private int tellFound(int last) {
            int state = last;
            for (int day = days[last] - 1; day >= 0 && day < MOST_DAYS && state >= 0; day--) {
                found[day] = state >> ALL_BITS;
                state = before[state];
            }
            return days[last];
        }
    }

    /** Counts the routes of a barrow by the street and the plant's growth that they come to. */
    private static final class Chance {
        private int routes = 0;
        private int ripeRoutes = 0;
        private final int[] now = new int[CHANCE_STATES];
        private final int[] next = new int[CHANCE_STATES];

        private void go(City city, int p, int from, int n) {
            Arrays.fill(now, 0);
            now[behindDay(city, p, 0, from)] = 1;
            for (int day = 1; day < n; day++) {
                goOneDay(city, p);
            }
            count();
        }

        private void goOneDay(City city, int p) {
            Arrays.fill(next, 0);
            for (int state = 0; state < CHANCE_STATES; state++) {
                if (now[state] > 0) {
                    goOn(city, p, state);
                }
            }
            System.arraycopy(next, 0, now, 0, CHANCE_STATES);
        }

        private void goOn(City city, int p, int state) {
            int here = state >> GROWTH_BITS;
            for (int to = 0; to < city.streets; to++) {
                if (city.canStep(here, to)) {
                    next[behindDay(city, p, state & GROWTH_MASK, to)] += now[state];
                }
            }
        }

        private static int behindDay(City city, int p, int growth, int street) {
            return street << GROWTH_BITS | city.grown(p, growth, city.season[street]);
        }

        private void count() {
            routes = 0;
            ripeRoutes = 0;
            for (int state = 0; state < CHANCE_STATES; state++) {
                routes += now[state];
                if ((state & GROWTH_MASK) == RIPE) {
                    ripeRoutes += now[state];
                }
            }
        }
    }

    /** Nothing, or a row of a lane; its room is kept for all its rows to come. */
    private static final class Sheet {
        private boolean has = false;
        private int lane = 0;
        private int length = 0;
        private final int[] cells = new int[MOST_CELLS];

        private void renew(int newLane, int n) {
            has = true;
            lane = newLane;
            length = n;
            Arrays.fill(cells, 0);
        }

        private boolean hasCells(int i, int n) {
            return i >= 0 && i <= length - n;
        }

        /** The first fault of taking n cells from i on as of a lane; 0 if there is none. */
        private int faultOfTaking(int asLane, int i, int n) {
            if (has && lane != asLane) {
                return FAULT_CAST;
            }
            if (!has) {
                return FAULT_NULL;
            }
            if (n < 0) {
                return FAULT_SIZE;
            }
            return hasCells(i, n) ? 0 : FAULT_INDEX;
        }

        private int cut(int v) {
            if (lane == 0) {
                return (byte) v;
            }
            return lane == 1 ? (short) v : v;
        }
    }
}
