/**
 * Every refusal and every fault that the document names, a row each, in its order: what is answered,
 * what fault() tells then, and that nothing else has changed.
 */
final class RefusalsTest {
    private static final int UNKNOWN = -1, OUTSIDE = -2, STATE = -3, FULL = -4, NONE = -9;
    private static final int NULL = 1, CAST = 2, INDEX = 3, SIZE = 4;
    private static final int LEAST = Integer.MIN_VALUE, MOST = Integer.MAX_VALUE;
    private static final long LOST = Long.MIN_VALUE;
    private static final int[] NO_STREETS = {-1, 5, 6, LEAST, MOST};
    private static final int[] NO_PLANTS = {-1, 3, 4, LEAST, MOST};
    private static final int[] NO_SHEETS = {-1, 4, 5, LEAST, MOST};
    private static final int[] NO_LANES = {-1, 3, 4, LEAST, MOST};
    private static final int[] NO_LENGTHS = {-1, 25, 26, LEAST, MOST};
    private static final Check check = new Check();

    private interface Call {
        long on(SeasonStreets x);
    }

    private interface Making {
        SeasonStreets make();
    }

    public static void main(String[] args) {
        city();
        ofStreet();
        ofPlant();
        let();
        corner();
        routeRefused();
        routeFaulty();
        quickest();
        mild();
        best();
        reading();
        back();
        for (Asking asking : Asking.values()) {
            asked(asking);
            askedFaulty(asking);
        }
        wishesOfNoStage();
        odds();
        sheet();
        lose();
        put();
        cell();
        copyRefused();
        copyFaulty();
        tell();
        label();
        as();
        many();
        check.end();
    }

    // ---- the objects that are asked

    /** Sheet 0 has bytes, 1 shorts, 2 ints (each with some cells that are no streets), 3 has nothing. */
    private static void layOut(SeasonStreets x) {
        int[][] rows = {{0, 1, 5, -1}, {0, 1, 2}, {0, 2, 1, 1, 7}};
        for (int k = 0; k < 3; k++) {
            x.sheet(k, k, rows[k].length);
            for (int i = 0; i < rows[k].length; i++) {
                x.put(k, i, rows[k][i]);
            }
        }
        x.lose(3);
    }

    /** Five streets in a row, three plants, two readings, a trace. */
    private static SeasonStreets desk() {
        SeasonStreets x = Desk.withCity(Desk.ROW);
        x.tell(2);
        x.reading(0, 2);
        x.reading(1, NONE);
        layOut(x);
        return x;
    }

    private static SeasonStreets withoutCity() {
        SeasonStreets x = new SeasonStreets();
        layOut(x);
        return x;
    }

    private static SeasonStreets withEightReadings() {
        SeasonStreets x = desk();
        for (int number = 2; number < 8; number++) {
            x.reading(0, 2);
        }
        return x;
    }

    // ---- the forms of a row

    /** A call that names no faults: what fault() told ahead of it stays. */
    private static void refused(String sentence, Making making, Call call, long answer) {
        for (int ahead = 0; ahead <= SIZE; ahead++) {
            row(sentence, making, call, answer, ahead, ahead);
        }
    }

    /** A call that names faults: it came to none. */
    private static void refusedOf(String sentence, Making making, Call call, long answer) {
        for (int ahead = 0; ahead <= SIZE; ahead++) {
            row(sentence, making, call, answer, ahead, 0);
        }
    }

    private static void faulty(String sentence, Making making, Call call, int fault) {
        for (int ahead = 0; ahead <= SIZE; ahead++) {
            row(sentence, making, call, -10 - fault, ahead, fault);
        }
    }

    private static void faultyLost(String sentence, Making making, Call call, int fault) {
        for (int ahead = 0; ahead <= SIZE; ahead++) {
            row(sentence, making, call, LOST, ahead, fault);
        }
    }

    private static void row(String sentence, Making making, Call call, long answer, int ahead, int fault) {
        SeasonStreets x = making.make();
        comeTo(x, ahead);
        check.due(sentence + ", ahead fault " + ahead, x.fault(), ahead);
        check.due(sentence, call.on(x), answer);
        check.due(sentence + ", fault behind " + ahead, x.fault(), fault);
        String want = State.of(making.make());
        String got = State.of(x);
        check.due(sentence + " changes: " + want + " to " + got, got.equals(want) ? 1 : 0, 1);
    }

    /** Brings an object to a fault, which changes nothing but what fault() tells. */
    private static void comeTo(SeasonStreets x, int fault) {
        switch (fault) {
            case NULL: x.put(3, 0, 0); break;
            case CAST: x.cell(0, 0, 1); break;
            case INDEX: x.put(0, -1, 0); break;
            case SIZE: x.sheet(0, 0, -1); break;
            default: x.cell(0, 0, 0); break;
        }
    }

    // ---- 1 the city

    private static void city() {
        for (int no : NO_SHEETS) {
            refusedOf("2 UNKNOWN: sheet " + no, RefusalsTest::desk, x -> x.city(no, 0, 0, 1), UNKNOWN);
        }
        refusedOf("2 UNKNOWN ahead of OUTSIDE", RefusalsTest::desk, x -> x.city(4, 3, 0, 1), UNKNOWN);
        for (int no : NO_LANES) {
            refusedOf("2 OUTSIDE: lane " + no, RefusalsTest::desk, x -> x.city(0, no, 0, 1), OUTSIDE);
            refusedOf("2 OUTSIDE: lane " + no + " ahead of NULL", RefusalsTest::desk, x -> x.city(3, no, 0, 1),
                OUTSIDE);
            refusedOf("2 OUTSIDE: lane " + no + " ahead of SIZE", RefusalsTest::desk, x -> x.city(0, no, 0, -1),
                OUTSIDE);
        }
        castsAndNulls("2", (x, sheet, lane, i, n) -> x.city(sheet, lane, i, n));
        faulty("2 CAST ahead of SIZE", RefusalsTest::desk, x -> x.city(0, 1, 0, -1), CAST);
        faulty("2 NULL ahead of SIZE", RefusalsTest::desk, x -> x.city(3, 0, 0, -1), NULL);
        faulty("2 SIZE: n is below 0", RefusalsTest::desk, x -> x.city(0, 0, 0, -1), SIZE);
        faulty("2 SIZE: n is the least", RefusalsTest::desk, x -> x.city(0, 0, 0, LEAST), SIZE);
        faulty("2 SIZE ahead of INDEX", RefusalsTest::desk, x -> x.city(0, 0, -1, -1), SIZE);
        faulty("2 SIZE ahead of INDEX beyond", RefusalsTest::desk, x -> x.city(0, 0, 5, -1), SIZE);
        indexes("2", (x, sheet, lane, i, n) -> x.city(sheet, lane, i, n));
        faulty("2 INDEX: more than any sheet has", RefusalsTest::desk, x -> x.city(0, 0, 0, 61), INDEX);
        faulty("2 INDEX: the most cells", RefusalsTest::desk, x -> x.city(0, 0, 0, MOST), INDEX);
        faulty("2 INDEX: the most cells, not from the first", RefusalsTest::desk, x -> x.city(0, 0, 1, MOST), INDEX);
        refusedOf("2 -100 less the first fault, no code", RefusalsTest::desk, x -> x.city(0, 0, 0, 0), -100);
        refusedOf("2 -100 less the first fault, no code at the end", RefusalsTest::desk, x -> x.city(0, 0, 4, 0),
            -100);
        refusedOf("2 -100 less the first fault, a code", RefusalsTest::desk, x -> x.city(2, 2, 0, 5), -100);
        faultyTexts();
    }

    private interface CellsCall {
        long on(SeasonStreets x, int sheet, int lane, int i, int n);
    }

    /** What a call answers that takes cells as of another lane, or from a sheet that has nothing. */
    private static void castsAndNulls(String promise, CellsCall call) {
        for (int sheet = 0; sheet < 3; sheet++) {
            for (int lane = 0; lane < 3; lane++) {
                int k = sheet;
                int as = lane;
                if (k != as) {
                    faulty(promise + " CAST: sheet " + k + " as lane " + as, RefusalsTest::desk,
                        x -> call.on(x, k, as, 0, 1), CAST);
                    faulty(promise + " CAST ahead of INDEX: sheet " + k + " as lane " + as, RefusalsTest::desk,
                        x -> call.on(x, k, as, 9, 1), CAST);
                    faulty(promise + " CAST, none taken: sheet " + k + " as lane " + as, RefusalsTest::desk,
                        x -> call.on(x, k, as, 0, 0), CAST);
                }
            }
            int as = sheet;
            faulty(promise + " NULL, nothing is no CAST: lane " + as, RefusalsTest::desk,
                x -> call.on(x, 3, as, 0, 1), NULL);
            faulty(promise + " NULL ahead of INDEX: lane " + as, RefusalsTest::desk,
                x -> call.on(x, 3, as, -1, 1), NULL);
            faulty(promise + " NULL, none taken: lane " + as, RefusalsTest::desk,
                x -> call.on(x, 3, as, 0, 0), NULL);
        }
    }

    /** What a call answers that takes cells that are not there; sheet 0 has four. */
    private static void indexes(String promise, CellsCall call) {
        int[][] parts = {{-1, 1}, {0, 5}, {1, 4}, {3, 2}, {4, 1}, {5, 1}, {LEAST, 1}, {MOST, 1}, {MOST, 24},
            {LEAST, 24}};
        for (int[] part : parts) {
            faulty(promise + " INDEX: " + part[1] + " cells from " + part[0], RefusalsTest::desk,
                x -> call.on(x, 0, 0, part[0], part[1]), INDEX);
        }
        int[] froms = {-1, 5, LEAST, MOST};
        for (int from : froms) {
            faulty(promise + " INDEX, if none is taken, too: from " + from, RefusalsTest::desk,
                x -> call.on(x, 0, 0, from, 0), INDEX);
        }
    }

    private static void faultyTexts() {
        String[] texts = {"y", "y6", "y63333", "y233", "y2330", "y233-", "y233-0", "y233-01-0", "y333333-01,p333",
            "y6333333-01,w333,w333,w333,", "y233-01,w333,w333,w33", "y233-01,w333,w333,w333,w333"};
        int[] places = {1, 2, 6, 4, 4, 5, 6, 9, 5, 26, 21, 22};
        for (int k = 0; k < texts.length; k++) {
            String text = texts[k];
            int place = places[k];
            Making making = () -> {
                SeasonStreets x = desk();
                Desk.writeText(x, 0, 0, 0, text);
                return x;
            };
            refusedOf("2 a text with a first fault is not taken: " + text, making,
                x -> x.city(0, 0, 0, text.length()), -100 - place);
        }
    }

    private static void ofStreet() {
        for (int no : NO_STREETS) {
            refused("3 UNKNOWN: street " + no, RefusalsTest::desk, x -> x.ofStreet(no, 0), UNKNOWN);
            refused("3 UNKNOWN ahead of OUTSIDE: street " + no, RefusalsTest::desk, x -> x.ofStreet(no, 2), UNKNOWN);
        }
        refused("3 UNKNOWN: no street without a city", RefusalsTest::withoutCity, x -> x.ofStreet(0, 0), UNKNOWN);
        for (int no : new int[] {-1, 2, 3, LEAST, MOST}) {
            refused("3 OUTSIDE: what " + no, RefusalsTest::desk, x -> x.ofStreet(4, no), OUTSIDE);
        }
    }

    private static void ofPlant() {
        for (int no : NO_PLANTS) {
            refused("4 UNKNOWN: plant " + no, RefusalsTest::desk, x -> x.ofPlant(no, 0), UNKNOWN);
            refused("4 UNKNOWN ahead of OUTSIDE: plant " + no, RefusalsTest::desk, x -> x.ofPlant(no, 4), UNKNOWN);
        }
        refused("4 UNKNOWN: no plant without a city", RefusalsTest::withoutCity, x -> x.ofPlant(0, 0), UNKNOWN);
        for (int no : new int[] {-1, 4, 5, LEAST, MOST}) {
            refused("4 OUTSIDE: what " + no, RefusalsTest::desk, x -> x.ofPlant(2, no), OUTSIDE);
        }
    }

    private static void let() {
        for (int no : NO_STREETS) {
            refused("5 UNKNOWN: street " + no, RefusalsTest::desk, x -> x.let(no, 1), UNKNOWN);
            refused("5 UNKNOWN ahead of OUTSIDE: street " + no, RefusalsTest::desk, x -> x.let(no, 4), UNKNOWN);
        }
        refused("5 UNKNOWN: no street without a city", RefusalsTest::withoutCity, x -> x.let(0, 1), UNKNOWN);
        for (int no : new int[] {-1, 4, 5, LEAST, MOST}) {
            refused("5 OUTSIDE: season " + no, RefusalsTest::desk, x -> x.let(4, no), OUTSIDE);
        }
    }

    private static void corner() {
        for (boolean is : new boolean[] {true, false}) {
            for (int no : NO_STREETS) {
                refused("6 UNKNOWN: the first, " + no, RefusalsTest::desk, x -> x.corner(no, 1, is), UNKNOWN);
                refused("6 UNKNOWN: the other, " + no, RefusalsTest::desk, x -> x.corner(1, no, is), UNKNOWN);
                refused("6 UNKNOWN: both, " + no, RefusalsTest::desk, x -> x.corner(no, no, is), UNKNOWN);
            }
            for (int s = 0; s < 5; s++) {
                int street = s;
                refused("6 UNKNOWN: one with itself, " + s, RefusalsTest::desk, x -> x.corner(street, street, is),
                    UNKNOWN);
            }
            refused("6 UNKNOWN: no streets without a city", RefusalsTest::withoutCity, x -> x.corner(0, 1, is),
                UNKNOWN);
            refused("6 it was so", RefusalsTest::desk, x -> x.corner(is ? 1 : 3, is ? 0 : 1, is), 0);
        }
    }

    // ---- 2 routes

    private static void routeRefused() {
        for (int no : NO_SHEETS) {
            refusedOf("7 UNKNOWN: sheet " + no, RefusalsTest::desk, x -> x.route(no, 0, 0, 1, 0), UNKNOWN);
            refusedOf("7 UNKNOWN ahead of OUTSIDE: sheet " + no, RefusalsTest::desk, x -> x.route(no, 3, 0, 25, 3),
                UNKNOWN);
        }
        for (int no : NO_LANES) {
            refusedOf("7 OUTSIDE: lane " + no, RefusalsTest::desk, x -> x.route(0, no, 0, 1, 0), OUTSIDE);
        }
        for (int no : NO_LENGTHS) {
            refusedOf("7 OUTSIDE: n " + no, RefusalsTest::desk, x -> x.route(0, 0, 0, no, 0), OUTSIDE);
            refusedOf("7 OUTSIDE ahead of CAST: n " + no, RefusalsTest::desk, x -> x.route(0, 1, 0, no, 0), OUTSIDE);
        }
        for (int no : new int[] {-1, 3, 4, 9, 13, 14, 19, 23, 24, 30, 32, 110, LEAST, MOST}) {
            refusedOf("7 OUTSIDE: what " + no, RefusalsTest::desk, x -> x.route(0, 0, 0, 1, no), OUTSIDE);
            refusedOf("7 OUTSIDE ahead of NULL: what " + no, RefusalsTest::desk, x -> x.route(3, 0, 0, 1, no), OUTSIDE);
        }
        refusedOf("7 OUTSIDE ahead of STATE: lane", RefusalsTest::withoutCity, x -> x.route(0, 3, 0, 1, 0), OUTSIDE);
        refusedOf("7 OUTSIDE ahead of STATE: n", RefusalsTest::withoutCity, x -> x.route(0, 0, 0, 25, 0), OUTSIDE);
        refusedOf("7 OUTSIDE ahead of STATE: what", RefusalsTest::withoutCity, x -> x.route(0, 0, 0, 1, 3), OUTSIDE);
        for (int what : new int[] {0, 1, 2, 10, 11, 12, 20, 21, 22}) {
            refusedOf("7 STATE: there is no city, what " + what, RefusalsTest::withoutCity,
                x -> x.route(0, 0, 0, 1, what), STATE);
            refusedOf("7 STATE, none taken, what " + what, RefusalsTest::withoutCity, x -> x.route(0, 0, 4, 0, what),
                STATE);
            refusedOf("7 UNKNOWN: a cell is no street, what " + what, RefusalsTest::desk,
                x -> x.route(0, 0, 0, 3, what), UNKNOWN);
        }
        refusedOf("7 STATE ahead of UNKNOWN: a cell", RefusalsTest::withoutCity, x -> x.route(0, 0, 3, 1, 0), STATE);
        refusedOf("7 UNKNOWN: street -1", RefusalsTest::desk, x -> x.route(0, 0, 3, 1, 1), UNKNOWN);
        refusedOf("7 UNKNOWN: street 5", RefusalsTest::desk, x -> x.route(0, 0, 2, 1, 1), UNKNOWN);
        refusedOf("7 UNKNOWN: a cell behind the first wrong", RefusalsTest::desk, x -> x.route(2, 2, 0, 5, 1), UNKNOWN);
        refusedOf("7 a first wrong", RefusalsTest::desk, x -> x.route(2, 2, 0, 4, 0), -101);
    }

    private static void routeFaulty() {
        for (int what : new int[] {0, 1, 2, 12, 22}) {
            castsAndNulls("7 what " + what, (x, sheet, lane, i, n) -> x.route(sheet, lane, i, n, what));
            indexes("7 what " + what, (x, sheet, lane, i, n) -> x.route(sheet, lane, i, n, what));
        }
        faulty("7 CAST ahead of STATE", RefusalsTest::withoutCity, x -> x.route(0, 1, 0, 1, 0), CAST);
        faulty("7 NULL ahead of STATE", RefusalsTest::withoutCity, x -> x.route(3, 1, 0, 1, 0), NULL);
        faulty("7 INDEX ahead of STATE", RefusalsTest::withoutCity, x -> x.route(0, 0, 4, 1, 0), INDEX);
        faulty("7 INDEX ahead of UNKNOWN: a cell", RefusalsTest::desk, x -> x.route(0, 0, 3, 2, 0), INDEX);
        faulty("7 INDEX: 24 cells are not there", RefusalsTest::desk, x -> x.route(0, 0, 0, 24, 0), INDEX);
    }

    // ---- 3 the quickest, the mildest

    private static void quickest() {
        for (int no : NO_STREETS) {
            refused("8 UNKNOWN: street " + no, RefusalsTest::desk, x -> x.quickest(1, no, -1), UNKNOWN);
            refused("8 UNKNOWN ahead of OUTSIDE: street " + no, RefusalsTest::desk, x -> x.quickest(8, no, 24),
                UNKNOWN);
        }
        refused("8 UNKNOWN: no street without a city", RefusalsTest::withoutCity, x -> x.quickest(0, 0, -1), UNKNOWN);
        for (int no : new int[] {-1, 8, 9, 16, LEAST, MOST}) {
            refused("8 OUTSIDE: set " + no, RefusalsTest::desk, x -> x.quickest(no, 0, -1), OUTSIDE);
        }
        for (int no : new int[] {-2, -9, 24, 25, LEAST, MOST}) {
            refused("8 OUTSIDE: k " + no, RefusalsTest::desk, x -> x.quickest(1, 0, no), OUTSIDE);
            refused("8 OUTSIDE: k " + no + " of the empty set", RefusalsTest::desk, x -> x.quickest(0, 0, no), OUTSIDE);
        }
        Making one = () -> Desk.withCity("y201,p000");
        refused("8 OUTSIDE: a plant that one of one plant has not", one, x -> x.quickest(2, 0, -1), OUTSIDE);
        refused("8 OUTSIDE: it and one that there is", one, x -> x.quickest(3, 0, -1), OUTSIDE);
    }

    private static void mild() {
        for (int no : NO_STREETS) {
            refused("9 UNKNOWN: from " + no, RefusalsTest::desk, x -> x.mild(no, 0), UNKNOWN);
            refused("9 UNKNOWN: to " + no, RefusalsTest::desk, x -> x.mild(0, no), UNKNOWN);
            refused("9 UNKNOWN: to itself, " + no, RefusalsTest::desk, x -> x.mild(no, no), UNKNOWN);
        }
        refused("9 UNKNOWN: no street without a city", RefusalsTest::withoutCity, x -> x.mild(0, 0), UNKNOWN);
    }

    private static void best() {
        refused("10 STATE: there is no city", RefusalsTest::withoutCity, x -> x.best(), STATE);
    }

    // ---- 4 when it was ripe

    private static void reading() {
        for (int no : NO_PLANTS) {
            refused("11 UNKNOWN: plant " + no, RefusalsTest::desk, x -> x.reading(no, 0), UNKNOWN);
            refused("11 UNKNOWN ahead of OUTSIDE: plant " + no, RefusalsTest::desk, x -> x.reading(no, 24), UNKNOWN);
            refused("11 UNKNOWN ahead of FULL: plant " + no, RefusalsTest::withEightReadings, x -> x.reading(no, 0),
                UNKNOWN);
        }
        refused("11 UNKNOWN: no plant without a city", RefusalsTest::withoutCity, x -> x.reading(0, 0), UNKNOWN);
        for (int no : new int[] {-1, -2, -8, -10, 24, 25, LEAST, MOST}) {
            refused("11 OUTSIDE: day " + no, RefusalsTest::desk, x -> x.reading(0, no), OUTSIDE);
            refused("11 OUTSIDE ahead of FULL: day " + no, RefusalsTest::withEightReadings, x -> x.reading(0, no),
                OUTSIDE);
        }
        refused("11 FULL: a ninth", RefusalsTest::withEightReadings, x -> x.reading(0, 0), FULL);
        refused("11 FULL: a ninth, not at all", RefusalsTest::withEightReadings, x -> x.reading(2, NONE), FULL);
    }

    private static void back() {
        for (int no : new int[] {-1, 3, 9, LEAST, MOST}) {
            refused("12 OUTSIDE: " + no + " of two", RefusalsTest::desk, x -> x.back(no), OUTSIDE);
        }
        refused("12 OUTSIDE: nine of eight", RefusalsTest::withEightReadings, x -> x.back(9), OUTSIDE);
        refused("12 OUTSIDE: one of none", RefusalsTest::withoutCity, x -> x.back(1), OUTSIDE);
        refused("12 OUTSIDE: -1 of none", RefusalsTest::withoutCity, x -> x.back(-1), OUTSIDE);
        refused("12 none are taken back", RefusalsTest::desk, x -> x.back(0), 2);
    }

    /** The three calls that ask what the readings leave open. */
    private enum Asking {
        SEASONS(13), KINDS(14), WISHES(15);

        private final int promise;

        Asking(int promise) {
            this.promise = promise;
        }

        private long on(SeasonStreets x, int which, int sheet, int lane, int i, int n) {
            switch (this) {
                case SEASONS: return x.seasons(which, sheet, lane, i, n);
                case KINDS: return x.kinds(which, sheet, lane, i, n);
                default: return x.wishes(which, 2, sheet, lane, i, n);
            }
        }
    }

    private static void asked(Asking asking) {
        String of = asking.promise + " ";
        for (int no : asking == Asking.SEASONS ? NO_STREETS : NO_PLANTS) {
            refusedOf(of + "UNKNOWN: street or plant " + no, RefusalsTest::desk, x -> asking.on(x, no, 1, 1, 0, 1),
                UNKNOWN);
            refusedOf(of + "UNKNOWN ahead of OUTSIDE: street or plant " + no, RefusalsTest::desk,
                x -> asking.on(x, no, 3, 3, 0, 25), UNKNOWN);
        }
        for (int no : NO_SHEETS) {
            refusedOf(of + "UNKNOWN: sheet " + no, RefusalsTest::desk, x -> asking.on(x, 0, no, 1, 0, 1), UNKNOWN);
            refusedOf(of + "UNKNOWN ahead of OUTSIDE: sheet " + no, RefusalsTest::desk,
                x -> asking.on(x, 0, no, 3, 0, 25), UNKNOWN);
        }
        for (int no : NO_LANES) {
            refusedOf(of + "OUTSIDE: lane " + no, RefusalsTest::desk, x -> asking.on(x, 0, 1, no, 0, 1), OUTSIDE);
            refusedOf(of + "OUTSIDE ahead of NULL: lane " + no, RefusalsTest::desk, x -> asking.on(x, 0, 3, no, 0, 1),
                OUTSIDE);
        }
        for (int no : NO_LENGTHS) {
            refusedOf(of + "OUTSIDE: n " + no, RefusalsTest::desk, x -> asking.on(x, 0, 1, 1, 0, no), OUTSIDE);
            refusedOf(of + "OUTSIDE ahead of CAST: n " + no, RefusalsTest::desk, x -> asking.on(x, 0, 1, 0, 0, no),
                OUTSIDE);
        }
        refusedOf(of + "UNKNOWN: nothing without a city", RefusalsTest::withoutCity, x -> asking.on(x, 0, 1, 1, 0, 1),
            UNKNOWN);
        refusedOf(of + "UNKNOWN: a cell is street 5", RefusalsTest::desk, x -> asking.on(x, 0, 0, 0, 2, 1), UNKNOWN);
        refusedOf(of + "UNKNOWN: a cell is street -1", RefusalsTest::desk, x -> asking.on(x, 0, 0, 0, 3, 1), UNKNOWN);
        refusedOf(of + "UNKNOWN: the last cell", RefusalsTest::desk, x -> asking.on(x, 0, 2, 2, 0, 5), UNKNOWN);
    }

    private static void askedFaulty(Asking asking) {
        castsAndNulls("" + asking.promise, (x, sheet, lane, i, n) -> asking.on(x, 0, sheet, lane, i, n));
        indexes("" + asking.promise, (x, sheet, lane, i, n) -> asking.on(x, 0, sheet, lane, i, n));
        faulty(asking.promise + " INDEX ahead of UNKNOWN: a cell", RefusalsTest::desk,
            x -> asking.on(x, 0, 0, 0, 3, 2), INDEX);
        faulty(asking.promise + " INDEX: 24 cells are not there", RefusalsTest::desk,
            x -> asking.on(x, 0, 1, 1, 0, 24), INDEX);
    }

    private static void wishesOfNoStage() {
        for (int no : new int[] {-1, 3, 4, LEAST, MOST}) {
            refusedOf("15 OUTSIDE: stage " + no, RefusalsTest::desk, x -> x.wishes(0, no, 1, 1, 0, 1), OUTSIDE);
            refusedOf("15 UNKNOWN ahead of OUTSIDE: plant, stage " + no, RefusalsTest::desk,
                x -> x.wishes(3, no, 1, 1, 0, 1), UNKNOWN);
            refusedOf("15 UNKNOWN ahead of OUTSIDE: sheet, stage " + no, RefusalsTest::desk,
                x -> x.wishes(0, no, 4, 1, 0, 1), UNKNOWN);
            refusedOf("15 OUTSIDE ahead of NULL: stage " + no, RefusalsTest::desk, x -> x.wishes(0, no, 3, 1, 0, 1),
                OUTSIDE);
        }
    }

    private static void odds() {
        for (int which = 0; which < 2; which++) {
            int number = which;
            for (int no : NO_PLANTS) {
                refused("16 LOST: plant " + no, RefusalsTest::desk, x -> x.odds(no, 0, 1, number), LOST);
            }
            for (int no : NO_STREETS) {
                refused("16 LOST: street " + no, RefusalsTest::desk, x -> x.odds(0, no, 1, number), LOST);
            }
            for (int no : new int[] {0, -1, 7, 8, LEAST, MOST}) {
                refused("16 LOST: n " + no, RefusalsTest::desk, x -> x.odds(0, 0, no, number), LOST);
            }
            refused("16 LOST: nothing without a city", RefusalsTest::withoutCity, x -> x.odds(0, 0, 1, number), LOST);
        }
        for (int no : new int[] {-1, 2, 3, LEAST, MOST}) {
            refused("16 LOST: which " + no, RefusalsTest::desk, x -> x.odds(0, 0, 1, no), LOST);
        }
    }

    // ---- 5 sheets, parts

    private static void sheet() {
        for (int no : NO_SHEETS) {
            refusedOf("17 UNKNOWN: sheet " + no, RefusalsTest::desk, x -> x.sheet(no, 0, 1), UNKNOWN);
            refusedOf("17 UNKNOWN ahead of OUTSIDE: sheet " + no, RefusalsTest::desk, x -> x.sheet(no, 3, 61), UNKNOWN);
            refusedOf("17 UNKNOWN ahead of SIZE: sheet " + no, RefusalsTest::desk, x -> x.sheet(no, 0, -1), UNKNOWN);
        }
        for (int no : NO_LANES) {
            refusedOf("17 OUTSIDE: lane " + no, RefusalsTest::desk, x -> x.sheet(0, no, 1), OUTSIDE);
            refusedOf("17 OUTSIDE ahead of SIZE: lane " + no, RefusalsTest::desk, x -> x.sheet(0, no, -1), OUTSIDE);
        }
        for (int no : new int[] {61, 62, 256, MOST}) {
            refusedOf("17 OUTSIDE: n " + no, RefusalsTest::desk, x -> x.sheet(0, 0, no), OUTSIDE);
            refusedOf("17 OUTSIDE: n " + no + " of nothing", RefusalsTest::desk, x -> x.sheet(3, 2, no), OUTSIDE);
        }
        for (int no : new int[] {-1, -2, -61, LEAST}) {
            faulty("17 SIZE: n " + no, RefusalsTest::desk, x -> x.sheet(0, 0, no), SIZE);
            faulty("17 SIZE: n " + no + " of nothing", RefusalsTest::desk, x -> x.sheet(3, 2, no), SIZE);
        }
    }

    private static void lose() {
        for (int no : NO_SHEETS) {
            refused("18 UNKNOWN: sheet " + no, RefusalsTest::desk, x -> x.lose(no), UNKNOWN);
        }
        refused("18 it had nothing", RefusalsTest::desk, x -> x.lose(3), 0);
    }

    private static void put() {
        for (int no : NO_SHEETS) {
            refusedOf("19 UNKNOWN: sheet " + no, RefusalsTest::desk, x -> x.put(no, 0, 1), UNKNOWN);
            refusedOf("19 UNKNOWN ahead of INDEX: sheet " + no, RefusalsTest::desk, x -> x.put(no, -1, 1), UNKNOWN);
        }
        faulty("19 NULL", RefusalsTest::desk, x -> x.put(3, 0, 1), NULL);
        faulty("19 NULL ahead of INDEX", RefusalsTest::desk, x -> x.put(3, -1, 1), NULL);
        for (int sheet = 0; sheet < 3; sheet++) {
            int k = sheet;
            int cells = new int[] {4, 3, 5}[k];
            for (int no : new int[] {-1, cells, cells + 1, 59, 60, LEAST, MOST}) {
                faulty("19 INDEX: cell " + no + " of sheet " + k, RefusalsTest::desk, x -> x.put(k, no, 1), INDEX);
            }
        }
    }

    private static void cell() {
        for (int no : NO_SHEETS) {
            refusedOf("20 LOST: sheet " + no, RefusalsTest::desk, x -> x.cell(no, 0, 0), LOST);
        }
        for (int no : NO_LANES) {
            refusedOf("20 LOST: lane " + no, RefusalsTest::desk, x -> x.cell(0, 0, no), LOST);
            refusedOf("20 LOST: lane " + no + " ahead of NULL", RefusalsTest::desk, x -> x.cell(3, 0, no), LOST);
            refusedOf("20 LOST: lane " + no + " ahead of INDEX", RefusalsTest::desk, x -> x.cell(0, 9, no), LOST);
        }
        for (int sheet = 0; sheet < 3; sheet++) {
            for (int lane = 0; lane < 3; lane++) {
                int k = sheet;
                int as = lane;
                if (k != as) {
                    faultyLost("20 CAST: sheet " + k + " as " + as, RefusalsTest::desk, x -> x.cell(k, 0, as), CAST);
                    faultyLost("20 CAST ahead of INDEX: sheet " + k + " as " + as, RefusalsTest::desk,
                        x -> x.cell(k, -1, as), CAST);
                }
            }
            int k = sheet;
            faultyLost("20 NULL, nothing is no CAST: lane " + k, RefusalsTest::desk, x -> x.cell(3, 0, k), NULL);
            faultyLost("20 NULL ahead of INDEX: lane " + k, RefusalsTest::desk, x -> x.cell(3, 60, k), NULL);
            int cells = new int[] {4, 3, 5}[k];
            for (int no : new int[] {-1, cells, cells + 1, 59, 60, LEAST, MOST}) {
                faultyLost("20 INDEX: cell " + no + " of sheet " + k, RefusalsTest::desk, x -> x.cell(k, no, k), INDEX);
            }
        }
    }

    private static void copyRefused() {
        for (int no : NO_SHEETS) {
            refusedOf("21 UNKNOWN: the first, " + no, RefusalsTest::desk, x -> x.copy(no, 0, 0, 0, 1), UNKNOWN);
            refusedOf("21 UNKNOWN: the other, " + no, RefusalsTest::desk, x -> x.copy(0, 0, no, 0, 1), UNKNOWN);
            refusedOf("21 UNKNOWN: both, " + no, RefusalsTest::desk, x -> x.copy(no, 0, no, 0, 1), UNKNOWN);
            refusedOf("21 UNKNOWN: the other, " + no + ", ahead of NULL: the first", RefusalsTest::desk,
                x -> x.copy(3, 0, no, 0, 1), UNKNOWN);
            refusedOf("21 UNKNOWN: the first, " + no + ", ahead of NULL: the other", RefusalsTest::desk,
                x -> x.copy(no, 0, 3, 0, 1), UNKNOWN);
            refusedOf("21 UNKNOWN ahead of INDEX: " + no, RefusalsTest::desk, x -> x.copy(0, -1, no, -1, -1), UNKNOWN);
        }
    }

    private static void copyFaulty() {
        faulty("21 NULL: the first", RefusalsTest::desk, x -> x.copy(3, 0, 0, 0, 1), NULL);
        faulty("21 NULL: the other", RefusalsTest::desk, x -> x.copy(0, 0, 3, 0, 1), NULL);
        faulty("21 NULL: both", RefusalsTest::desk, x -> x.copy(3, 0, 3, 0, 1), NULL);
        faulty("21 NULL: none goes", RefusalsTest::desk, x -> x.copy(3, 0, 3, 0, 0), NULL);
        faulty("21 NULL ahead of INDEX: the first", RefusalsTest::desk, x -> x.copy(3, -1, 0, -1, -1), NULL);
        faulty("21 NULL ahead of INDEX: the other", RefusalsTest::desk, x -> x.copy(0, -1, 3, -1, -1), NULL);
        for (int sheet = 0; sheet < 3; sheet++) {
            for (int lane = 0; lane < 3; lane++) {
                int k = sheet;
                int other = lane;
                if (k != other) {
                    faulty("21 CAST: " + k + " to " + other, RefusalsTest::desk, x -> x.copy(k, 0, other, 0, 1), CAST);
                    faulty("21 CAST: none of " + k + " to " + other, RefusalsTest::desk,
                        x -> x.copy(k, 0, other, 0, 0), CAST);
                    faulty("21 CAST ahead of INDEX: " + k + " to " + other, RefusalsTest::desk,
                        x -> x.copy(k, -1, other, -1, -1), CAST);
                }
            }
        }
        int[][] parts = {{-1, 0, 1}, {0, -1, 1}, {0, 0, -1}, {0, 0, 4}, {0, 0, 5}, {2, 0, 3}, {0, 1, 3}, {4, 0, 1},
            {0, 3, 1}, {5, 0, 0}, {0, 4, 0}, {-1, 0, 0}, {0, -1, 0}, {LEAST, 0, 1}, {0, LEAST, 1}, {0, 0, LEAST},
            {MOST, 0, 1}, {0, MOST, 1}, {0, 0, MOST}, {MOST, 0, MOST}, {0, MOST, MOST}, {1, 1, MOST}, {LEAST, 0, 0},
            {0, MOST, 0}, {4, 3, -1}, {2, 2, -1}};
        for (int[] part : parts) {
            faulty("21 INDEX: " + part[2] + " cells from " + part[0] + " to " + part[1], RefusalsTest::withLikeSheets,
                x -> x.copy(0, part[0], 1, part[1], part[2]), INDEX);
        }
        faulty("21 INDEX: up its own row", RefusalsTest::desk, x -> x.copy(0, 0, 0, 1, 4), INDEX);
        faulty("21 INDEX: down its own row", RefusalsTest::desk, x -> x.copy(0, 1, 0, 0, 4), INDEX);
    }

    /** Sheets 0 and 1 have bytes, four and three. */
    private static SeasonStreets withLikeSheets() {
        SeasonStreets x = desk();
        x.sheet(1, 0, 3);
        x.put(1, 0, 7);
        x.put(1, 1, 8);
        x.put(1, 2, 9);
        return x;
    }

    private static void tell() {
        for (int no : NO_PLANTS) {
            refused("22 UNKNOWN: plant " + no, RefusalsTest::desk, x -> x.tell(no), UNKNOWN);
        }
        refused("22 UNKNOWN: no plant without a city", RefusalsTest::withoutCity, x -> x.tell(0), UNKNOWN);
    }

    private static void label() {
        for (int no : NO_PLANTS) {
            refused("23 UNKNOWN: plant " + no, RefusalsTest::desk, x -> x.label(no), UNKNOWN);
        }
        refused("23 UNKNOWN: no plant without a city", RefusalsTest::withoutCity, x -> x.label(0), UNKNOWN);
    }

    private static void as() {
        for (int no : NO_PLANTS) {
            refusedOf("24 UNKNOWN: plant " + no, RefusalsTest::desk, x -> x.as(no, 0), UNKNOWN);
            refusedOf("24 UNKNOWN ahead of OUTSIDE: plant " + no, RefusalsTest::desk, x -> x.as(no, 3), UNKNOWN);
        }
        refusedOf("24 UNKNOWN: no plant without a city", RefusalsTest::withoutCity, x -> x.as(0, 0), UNKNOWN);
        for (int no : new int[] {-1, 3, 4, LEAST, MOST}) {
            for (int plant = 0; plant < 3; plant++) {
                int p = plant;
                refusedOf("24 OUTSIDE: kind " + no + " of plant " + p, RefusalsTest::desk, x -> x.as(p, no), OUTSIDE);
            }
        }
        faulty("24 CAST: a plant is no shrub", RefusalsTest::desk, x -> x.as(0, 1), CAST);
        faulty("24 CAST: a plant is no weed", RefusalsTest::desk, x -> x.as(0, 2), CAST);
        faulty("24 CAST: a shrub is no weed", RefusalsTest::desk, x -> x.as(1, 2), CAST);
    }

    private static void many() {
        for (int no : new int[] {-1, 4, 5, LEAST, MOST}) {
            refused("27 OUTSIDE: what " + no, RefusalsTest::desk, x -> x.many(no), OUTSIDE);
            refused("27 OUTSIDE: what " + no + " without a city", RefusalsTest::withoutCity, x -> x.many(no), OUTSIDE);
        }
    }
}
