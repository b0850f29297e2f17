/** Promises 17 to 21: sheets; and 26, by the calls that name faults. */
final class SheetsTest {
    private static final int UNKNOWN = -1, OUTSIDE = -2;
    private static final long LOST = Long.MIN_VALUE;
    private static final Check check = new Check();

    public static void main(String[] args) {
        sheet();
        lose();
        put();
        lanesCut();
        cell();
        copy();
        copyFaults();
        fault();
        check.end();
    }

    private static void sheet() {
        SeasonStreets x = new SeasonStreets();
        check.due("17 most", x.sheet(0, 0, 60), 1);
        check.due("17 last cell", x.put(0, 59, 7), 1);
        check.due("17 no more", x.put(0, 60, 7), -13);
        check.due("17 anew", x.sheet(0, 2, 60), 1);
        check.due("17 cells are 0", x.cell(0, 59, 2), 0);
        check.due("17 least", x.sheet(3, 1, 0), 1);
        check.due("17 none is not nothing", x.lose(3), 1);
        check.due("17 sheet 4", x.sheet(4, 9, 99), UNKNOWN);
        check.due("17 sheet -1", x.sheet(-1, 0, 1), UNKNOWN);
        check.due("17 lane 3", x.sheet(0, 3, -1), OUTSIDE);
        check.due("17 lane -1", x.sheet(0, -1, 1), OUTSIDE);
        check.due("17 n 61", x.sheet(0, 0, 61), OUTSIDE);
        check.due("17 n most", x.sheet(0, 0, Integer.MAX_VALUE), OUTSIDE);
        check.due("17 n -1", x.sheet(0, 0, -1), -14);
        check.due("17 size told", x.fault(), 4);
        check.due("17 n least", x.sheet(0, 0, Integer.MIN_VALUE), -14);
        check.due("17 it stays", x.cell(0, 59, 2), 0);
    }

    private static void lose() {
        SeasonStreets x = new SeasonStreets();
        x.sheet(2, 1, 3);
        check.due("18 had", x.lose(2), 1);
        check.due("18 had nothing", x.lose(2), 0);
        check.due("18 nothing there", x.put(2, 0, 1), -11);
        check.due("18 sheet 4", x.lose(4), UNKNOWN);
        check.due("18 sheet -1", x.lose(-1), UNKNOWN);
        check.due("18 names no faults", x.fault(), 1);
    }

    private static void put() {
        SeasonStreets x = new SeasonStreets();
        check.due("19 nothing", x.put(1, 9, 9), -11);
        x.sheet(1, 2, 3);
        check.due("19 taken", x.put(1, 0, -5), 1);
        check.due("19 taken", x.put(1, 2, 6), 1);
        check.due("19 first", x.cell(1, 0, 2), -5);
        check.due("19 second", x.cell(1, 1, 2), 0);
        check.due("19 third", x.cell(1, 2, 2), 6);
        check.due("19 cell 3", x.put(1, 3, 1), -13);
        check.due("19 index told", x.fault(), 3);
        check.due("19 cell -1", x.put(1, -1, 1), -13);
        check.due("19 cell most", x.put(1, Integer.MAX_VALUE, 1), -13);
        check.due("19 cell least", x.put(1, Integer.MIN_VALUE, 1), -13);
        check.due("19 sheet 4", x.put(4, 0, 1), UNKNOWN);
        check.due("19 sheet -1", x.put(-1, 0, 1), UNKNOWN);
    }

    private static void lanesCut() {
        int[] numbers = {0, 127, 128, 255, 256, -1, -128, -129, 32767, 32768, 65536, 65537, -32769,
            Integer.MAX_VALUE, Integer.MIN_VALUE};
        for (int v : numbers) {
            SeasonStreets x = new SeasonStreets();
            long[] cut = {(byte) v, (short) v, v};
            for (int lane = 0; lane < 3; lane++) {
                x.sheet(lane, lane, 1);
                x.put(lane, 0, v);
                check.due("19 cut to lane " + lane + ": " + v, x.cell(lane, 0, lane), cut[lane]);
            }
        }
    }

    private static void cell() {
        SeasonStreets x = new SeasonStreets();
        check.due("20 nothing", x.cell(0, 0, 0), LOST);
        check.due("20 null told", x.fault(), 1);
        x.sheet(0, 1, 2);
        check.due("20 another lane", x.cell(0, 9, 0), LOST);
        check.due("20 cast told", x.fault(), 2);
        check.due("20 beyond", x.cell(0, 2, 1), LOST);
        check.due("20 index told", x.fault(), 3);
        check.due("20 below 0", x.cell(0, -1, 1), LOST);
        check.due("20 there", x.cell(0, 1, 1), 0);
        check.due("20 none told", x.fault(), 0);
        x.cell(0, 2, 1);
        check.due("20 lane 3", x.cell(0, 0, 3), LOST);
        check.due("20 refused is no fault", x.fault(), 0);
        x.cell(0, 2, 1);
        check.due("20 sheet 4", x.cell(4, 0, 1), LOST);
        check.due("20 refused is no fault", x.fault(), 0);
        check.due("20 sheet -1", x.cell(-1, 0, 1), LOST);
        check.due("20 lane -1", x.cell(0, 0, -1), LOST);
    }

    private static String row(SeasonStreets x, int k, int lane, int n) {
        StringBuilder row = new StringBuilder();
        for (int i = 0; i < n; i++) {
            row.append(x.cell(k, i, lane));
        }
        return row.toString();
    }

    private static void isRow(String promise, String got, String want) {
        check.due(promise + ": " + got + " for " + want, got.equals(want) ? 1 : 0, 1);
    }

    private static SeasonStreets withRow(int lane) {
        SeasonStreets x = new SeasonStreets();
        x.sheet(0, lane, 6);
        for (int i = 0; i < 6; i++) {
            x.put(0, i, i + 1);
        }
        return x;
    }

    private static void copy() {
        for (int lane = 0; lane < 3; lane++) {
            SeasonStreets x = withRow(lane);
            x.sheet(1, lane, 4);
            check.due("21 to another one", x.copy(0, 3, 1, 1, 3), 3);
            isRow("21 to another one", row(x, 1, lane, 4), "0456");
            isRow("21 from it", row(x, 0, lane, 6), "123456");
            check.due("21 up its own row", x.copy(0, 0, 0, 2, 4), 4);
            isRow("21 up its own row", row(x, 0, lane, 6), "121234");
            check.due("21 none", x.copy(0, 6, 1, 4, 0), 0);
        }
        SeasonStreets x = withRow(2);
        check.due("21 down its own row", x.copy(0, 2, 0, 0, 4), 4);
        isRow("21 down its own row", row(x, 0, 2, 6), "345656");
    }

    private static void copyFaults() {
        SeasonStreets x = withRow(2);
        x.sheet(1, 2, 4);
        x.sheet(2, 1, 9);
        check.due("21 sheet 4", x.copy(4, 0, 0, 0, 1), UNKNOWN);
        check.due("21 sheet -1", x.copy(0, 0, -1, 0, 1), UNKNOWN);
        check.due("21 other 4, the first nothing", x.copy(3, 0, 4, 0, 1), UNKNOWN);
        check.due("21 refused is no fault", x.fault(), 0);
        check.due("21 first nothing", x.copy(3, -1, 0, 0, 1), -11);
        check.due("21 null told", x.fault(), 1);
        check.due("21 other nothing", x.copy(0, 0, 3, 0, -1), -11);
        check.due("21 nothing to itself", x.copy(3, 0, 3, 0, 0), -11);
        check.due("21 unlike", x.copy(0, -1, 2, -1, -1), -12);
        check.due("21 cast told", x.fault(), 2);
        int[][] beyond = {{-1, 0, 1}, {0, -1, 1}, {0, 0, -1}, {0, 0, 5}, {3, 0, 4}, {0, 2, 3}, {7, 0, 0}, {0, 5, 0},
            {Integer.MAX_VALUE, 0, 1}, {0, Integer.MAX_VALUE, 1}, {0, 0, Integer.MAX_VALUE},
            {1, 1, Integer.MAX_VALUE}, {0, 0, Integer.MIN_VALUE}, {Integer.MIN_VALUE, 0, 0}};
        for (int[] told : beyond) {
            check.due("21 index", x.copy(0, told[0], 1, told[1], told[2]), -13);
            check.due("21 index told", x.fault(), 3);
        }
        isRow("21 stays", row(x, 1, 2, 4), "0000");
        isRow("21 stays", row(x, 0, 2, 6), "123456");
    }

    /** A fault of put is told until the next call that names one, whatever comes between. */
    private static void fault() {
        SeasonStreets x = Desk.withCity(Desk.ROW);
        check.due("26 none", x.fault(), 0);
        x.lose(3);
        x.put(3, 0, 0);
        x.ofStreet(0, 0);
        x.ofPlant(9, 0);
        x.let(0, 9);
        x.corner(0, 0, true);
        x.quickest(1, 0, -1);
        x.mild(0, 1);
        x.best();
        x.reading(0, 99);
        x.back(99);
        x.odds(0, 0, 9, 0);
        x.lose(9);
        x.tell(0);
        x.label(9);
        x.trace();
        x.many(9);
        check.due("26 told on", x.fault(), 1);
        check.due("26 told again", x.fault(), 1);
        x.sheet(2, 2, 1);
        check.due("26 sheet came to none", x.fault(), 0);
        x.put(3, 0, 0);
        x.sheet(9, 0, 0);
        check.due("26 sheet refused", x.fault(), 0);
        x.put(3, 0, 0);
        x.put(2, 0, 0);
        check.due("26 put came to none", x.fault(), 0);
        x.put(3, 0, 0);
        x.put(9, 0, 0);
        check.due("26 put refused", x.fault(), 0);
        x.put(3, 0, 0);
        x.copy(2, 0, 2, 0, 1);
        check.due("26 copy came to none", x.fault(), 0);
        x.put(3, 0, 0);
        x.city(9, 0, 0, 0);
        check.due("26 city refused", x.fault(), 0);
        x.put(3, 0, 0);
        x.city(2, 2, 0, 1);
        check.due("26 city with a first fault came to none", x.fault(), 0);
        x.put(3, 0, 0);
        x.route(2, 2, 0, 1, 0);
        check.due("26 route came to none", x.fault(), 0);
        x.put(3, 0, 0);
        x.route(2, 2, 0, 1, 9);
        check.due("26 route refused", x.fault(), 0);
        x.put(3, 0, 0);
        x.as(0, 0);
        check.due("26 as came to none", x.fault(), 0);
        refusedIsNoFault(x);
        SeasonStreets none = new SeasonStreets();
        none.sheet(0, 2, 1);
        none.put(3, 0, 0);
        none.route(0, 2, 0, 1, 0);
        check.due("26 route without a city", none.fault(), 0);
    }

    /** Calls that name faults, each refused once as unknown and once as outside where it can be. */
    private static void refusedIsNoFault(SeasonStreets x) {
        for (int call = 0; call < 18; call++) {
            x.put(3, 0, 0);
            long answer = refused(x, call);
            check.due("26 call " + call + " is refused", answer == LOST ? OUTSIDE : answer, -1 - call % 2);
            check.due("26 call " + call + " came to none", x.fault(), 0);
        }
    }

    private static long refused(SeasonStreets x, int call) {
        switch (call) {
            case 0: return x.city(4, 0, 0, 1);
            case 1: return x.city(3, 3, 0, 1);
            case 2: return x.route(4, 0, 0, 1, 0);
            case 3: return x.route(3, 0, 0, 25, 0);
            case 4: return x.seasons(5, 3, 0, 0, 1);
            case 5: return x.seasons(0, 3, 3, 0, 1);
            case 6: return x.kinds(0, 4, 0, 0, 1);
            case 7: return x.kinds(0, 3, 0, 0, 25);
            case 8: return x.wishes(3, 0, 3, 0, 0, 1);
            case 9: return x.wishes(0, 3, 3, 0, 0, 1);
            case 10: return x.sheet(4, 0, 1);
            case 11: return x.sheet(3, 0, 61);
            case 12: return x.copy(0, 0, 4, 0, 1);
            case 13: return x.cell(3, 0, 3);
            case 14: return x.put(4, 0, 1);
            case 15: return x.wishes(0, 0, 3, 3, 0, 1);
            case 16: return x.as(3, 0);
            default: return x.as(0, 3);
        }
    }
}
