/** The edges of a new object, of sheets, of parts, of fault() and many(): a test a sentence. */
final class SheetsEdgesTest {
    private static final int UNKNOWN = -1, NONE = -9;
    private static final int LEAST = Integer.MIN_VALUE, MOST = Integer.MAX_VALUE;
    private static final Check check = new Check();

    public static void main(String[] args) {
        aNewObjectHasNoCity();
        sheetsHaveNothingAtFirst();
        sheetsAreFour();
        rowsOfNoCells();
        rowsOfSixtyCells();
        cellsAreZeroAtFirst();
        aNewRowStandsInPlaceOfTheOld();
        bytesAreCut();
        shortsAreCut();
        intsAreNotCut();
        theFirstCellAndTheLast();
        aSheetIsLost();
        aLostSheetHasNoLane();
        aCellIsTakenAsItsLane();
        noneIsTakenAtTheEnd();
        copiesOfNone();
        copiesOfAWholeRow();
        copiesWithinARowAreAsTheyWere();
        copiesToLikeLanes();
        aTextOfTheLastCells();
        traceIsZeroAtFirst();
        traceWraps();
        bodiesLeaveTheirNumberAsTheyBegin();
        tellingIsOfTheFirstWish();
        labels();
        eachIsAPlantToo();
        faultIsZeroAheadOfAny();
        faultStaysBehindCallsThatNameNone();
        faultIsZeroBehindACallThatCameToNone();
        faultIsOfTheLatest();
        manyIsZeroWithoutACity();
        eachPairOfCornersIsCountedOnce();
        check.end();
    }

    private static void aNewObjectHasNoCity() {
        SeasonStreets x = new SeasonStreets();
        for (int what = 0; what < 4; what++) {
            check.due("1 none, what " + what, x.many(what), 0);
        }
        check.due("1 no street", x.ofStreet(0, 0), UNKNOWN);
        check.due("1 no plant", x.ofPlant(0, 0), UNKNOWN);
        check.due("1 no city", x.best(), -3);
        check.due("1 like another new one", State.of(x).equals(State.of(new SeasonStreets())) ? 1 : 0, 1);
    }

    private static void sheetsHaveNothingAtFirst() {
        for (int k = 0; k < 4; k++) {
            SeasonStreets x = new SeasonStreets();
            check.due("1 nothing to put to: " + k, x.put(k, 0, 0), -11);
            check.due("1 nothing to copy: " + k, x.copy(k, 0, k, 0, 0), -11);
            check.due("1 nothing to lose: " + k, x.lose(k), 0);
            for (int lane = 0; lane < 3; lane++) {
                check.due("1 no cell: " + k, x.cell(k, 0, lane), Long.MIN_VALUE);
                check.due("1 as there is nothing", x.fault(), 1);
            }
        }
    }

    private static void sheetsAreFour() {
        SeasonStreets x = new SeasonStreets();
        for (int k = 0; k < 4; k++) {
            check.due("17 sheet " + k, x.sheet(k, 2, 1), 1);
            check.due("19 sheet " + k, x.put(k, 0, 100 + k), 1);
        }
        for (int k = 0; k < 4; k++) {
            check.due("20 each its own " + k, x.cell(k, 0, 2), 100 + k);
        }
        check.due("17 no sheet 4", x.sheet(4, 2, 1), UNKNOWN);
        check.due("17 no sheet -1", x.sheet(-1, 2, 1), UNKNOWN);
    }

    private static void rowsOfNoCells() {
        for (int lane = 0; lane < 3; lane++) {
            SeasonStreets x = new SeasonStreets();
            check.due("17 no cells", x.sheet(0, lane, 0), 1);
            check.due("19 no first cell", x.put(0, 0, 1), -13);
            x.cell(0, 0, lane);
            check.due("20 no first cell", x.fault(), 3);
            check.due("21 none of none", x.copy(0, 0, 0, 0, 0), 0);
            check.due("21 one of none", x.copy(0, 0, 0, 0, 1), -13);
            check.due("2 no text", x.city(0, lane, 0, 0), -100);
            check.due("18 it is not nothing", x.lose(0), 1);
        }
    }

    private static void rowsOfSixtyCells() {
        for (int lane = 0; lane < 3; lane++) {
            SeasonStreets x = new SeasonStreets();
            check.due("17 60 cells", x.sheet(1, lane, 60), 1);
            check.due("19 the last", x.put(1, 59, 7), 1);
            check.due("20 the last", x.cell(1, 59, lane), 7);
            check.due("19 no cell 60", x.put(1, 60, 7), -13);
            check.due("17 61 cells", x.sheet(1, lane, 61), -2);
            check.due("20 it stays", x.cell(1, 59, lane), 7);
            check.due("21 all 60", x.copy(1, 0, 1, 0, 60), 60);
            check.due("21 61", x.copy(1, 0, 1, 0, 61), -13);
        }
    }

    private static void cellsAreZeroAtFirst() {
        for (int n = 1; n <= 60; n += 59) {
            SeasonStreets x = new SeasonStreets();
            x.sheet(0, 0, n);
            for (int i = 0; i < n; i++) {
                check.due("17 cell " + i + " of " + n, x.cell(0, i, 0), 0);
            }
        }
    }

    private static void aNewRowStandsInPlaceOfTheOld() {
        SeasonStreets x = new SeasonStreets();
        x.sheet(0, 0, 60);
        for (int i = 0; i < 60; i++) {
            x.put(0, i, -1);
        }
        check.due("17 a new row", x.sheet(0, 2, 59), 1);
        for (int i = 0; i < 59; i++) {
            check.due("17 cell " + i + " anew", x.cell(0, i, 2), 0);
        }
        check.due("19 no cell of the old", x.put(0, 59, 1), -13);
        x.cell(0, 0, 0);
        check.due("20 not of the old lane", x.fault(), 2);
        x.put(0, 0, 5);
        x.lose(0);
        x.sheet(0, 2, 60);
        check.due("17 behind a loss anew", x.cell(0, 0, 2), 0);
        x.put(0, 0, 5);
        x.sheet(0, 2, 60);
        check.due("17 of the same lane anew", x.cell(0, 0, 2), 0);
    }

    private static void cut(int lane, int v, long want) {
        SeasonStreets x = new SeasonStreets();
        x.sheet(0, lane, 3);
        check.due("19 taken", x.put(0, 1, v), 1);
        check.due("5 " + v + " cut to lane " + lane, x.cell(0, 1, lane), want);
        check.due("5 the cell ahead of it", x.cell(0, 0, lane), 0);
        check.due("5 the cell behind it", x.cell(0, 2, lane), 0);
    }

    private static void bytesAreCut() {
        int[] numbers = {0, 127, 128, 129, 255, 256, 257, -1, -128, -129, -256, 32767, 32768, 65535, 65536, MOST,
            LEAST};
        int[] wants = {0, 127, -128, -127, -1, 0, 1, -1, -128, 127, 0, -1, 0, -1, 0, -1, 0};
        for (int k = 0; k < numbers.length; k++) {
            cut(0, numbers[k], wants[k]);
        }
    }

    private static void shortsAreCut() {
        int[] numbers = {0, 127, 128, 256, -129, 32767, 32768, 32769, 65535, 65536, 65537, -32768, -32769, MOST, LEAST};
        int[] wants = {0, 127, 128, 256, -129, 32767, -32768, -32767, -1, 0, 1, -32768, 32767, -1, 0};
        for (int k = 0; k < numbers.length; k++) {
            cut(1, numbers[k], wants[k]);
        }
    }

    private static void intsAreNotCut() {
        int[] numbers = {0, -1, 128, 32768, 65536, -32769, MOST - 1, MOST, LEAST + 1, LEAST};
        for (int number : numbers) {
            cut(2, number, number);
        }
    }

    private static void theFirstCellAndTheLast() {
        for (int n = 1; n <= 60; n++) {
            SeasonStreets x = new SeasonStreets();
            x.sheet(2, 1, n);
            check.due("19 last of " + n, x.put(2, n - 1, n), 1);
            check.due("20 last of " + n, x.cell(2, n - 1, 1), n);
            check.due("19 first of " + n, x.put(2, 0, -n), 1);
            check.due("20 first of " + n, x.cell(2, 0, 1), -n);
            check.due("19 ahead of the first of " + n, x.put(2, -1, 1), -13);
            check.due("19 behind the last of " + n, x.put(2, n, 1), -13);
            check.due("20 ahead of the first of " + n, x.cell(2, -1, 1), Long.MIN_VALUE);
            check.due("20 behind the last of " + n, x.cell(2, n, 1), Long.MIN_VALUE);
        }
    }

    private static void aSheetIsLost() {
        for (int k = 0; k < 4; k++) {
            SeasonStreets x = new SeasonStreets();
            check.due("18 it had nothing", x.lose(k), 0);
            x.sheet(k, k % 3, k);
            check.due("18 it had a row", x.lose(k), 1);
            check.due("18 it has nothing", x.lose(k), 0);
            check.due("18 it has nothing", x.put(k, 0, 0), -11);
        }
    }

    private static void aLostSheetHasNoLane() {
        SeasonStreets x = new SeasonStreets();
        x.sheet(0, 1, 4);
        x.lose(0);
        for (int lane = 0; lane < 3; lane++) {
            check.due("2 nothing is no cast: lane " + lane, x.city(0, lane, 0, 1), -11);
            check.due("7 nothing is no cast: lane " + lane, x.route(0, lane, 0, 1, 0), -11);
            x.cell(0, 0, lane);
            check.due("20 nothing is no cast: lane " + lane, x.fault(), 1);
        }
        x.sheet(1, 0, 4);
        check.due("21 nothing ahead of a cast", x.copy(0, 0, 1, 0, 1), -11);
        check.due("21 nothing ahead of a cast, the other", x.copy(1, 0, 0, 0, 1), -11);
    }

    private static void aCellIsTakenAsItsLane() {
        for (int lane = 0; lane < 3; lane++) {
            SeasonStreets x = new SeasonStreets();
            x.sheet(0, lane, 1);
            x.put(0, 0, 9);
            for (int as = 0; as < 3; as++) {
                check.due("20 lane " + lane + " as " + as, x.cell(0, 0, as), lane == as ? 9 : Long.MIN_VALUE);
                check.due("20 lane " + lane + " as " + as + ", fault", x.fault(), lane == as ? 0 : 2);
            }
        }
    }

    private static void noneIsTakenAtTheEnd() {
        SeasonStreets x = Desk.withCity("y201,p000");
        for (int n = 0; n <= 60; n += 12) {
            x.sheet(3, 2, n);
            for (int i : new int[] {-1, 0, n, n + 1}) {
                boolean is = i >= 0 && i <= n;
                check.due("7 none from " + i + " of " + n, x.route(3, 2, i, 0, 1), is ? NONE : -13);
                check.due("2 none from " + i + " of " + n, x.city(3, 2, i, 0), is ? -100 : -13);
                check.due("13 none from " + i + " of " + n, x.seasons(0, 3, 2, i, 0), is ? 15 : -13);
                check.due("14 none from " + i + " of " + n, x.kinds(0, 3, 2, i, 0), is ? 7 : -13);
                check.due("15 none from " + i + " of " + n, x.wishes(0, 0, 3, 2, i, 0), is ? 15 : -13);
                check.due("21 none from " + i + " of " + n, x.copy(3, i, 3, 0, 0), is ? 0 : -13);
                check.due("21 none to " + i + " of " + n, x.copy(3, 0, 3, i, 0), is ? 0 : -13);
            }
            check.due("21 none at both ends of " + n, x.copy(3, n, 3, n, 0), 0);
        }
    }

    /** A sheet of so many ints, 1 and on, and another one of four zeros. */
    private static SeasonStreets withRow(int n) {
        SeasonStreets x = new SeasonStreets();
        x.sheet(0, 2, n);
        for (int i = 0; i < n; i++) {
            x.put(0, i, i + 1);
        }
        x.sheet(1, 2, 4);
        return x;
    }

    private static void isRow(String sentence, SeasonStreets x, int k, String want) {
        StringBuilder row = new StringBuilder();
        for (int i = 0; i < want.length(); i++) {
            row.append(x.cell(k, i, 2));
        }
        check.due(sentence + ": " + row + " for " + want, row.toString().equals(want) ? 1 : 0, 1);
    }

    private static void copiesOfNone() {
        int[][] ends = {{0, 0}, {6, 0}, {0, 4}, {6, 4}, {3, 2}};
        for (int[] end : ends) {
            SeasonStreets x = withRow(6);
            check.due("21 none from " + end[0] + " to " + end[1], x.copy(0, end[0], 1, end[1], 0), 0);
            isRow("21 none went", x, 1, "0000");
            isRow("21 none is gone", x, 0, "123456");
        }
    }

    private static void copiesOfAWholeRow() {
        SeasonStreets x = withRow(4);
        check.due("21 all", x.copy(0, 0, 1, 0, 4), 4);
        isRow("21 all went", x, 1, "1234");
        isRow("21 all stay", x, 0, "1234");
        check.due("21 the last to the first", x.copy(0, 3, 1, 0, 1), 1);
        isRow("21 it went", x, 1, "4234");
        check.due("21 the first to the last", x.copy(0, 0, 1, 3, 1), 1);
        isRow("21 it went", x, 1, "4231");
        check.due("21 one too many", x.copy(0, 0, 1, 0, 5), -13);
        x.put(0, 0, 9);
        isRow("21 two rows", x, 1, "4231");
    }

    private static void copiesWithinARowAreAsTheyWere() {
        int[][] ways = {{0, 1, 5}, {1, 0, 5}, {0, 3, 3}, {3, 0, 3}, {0, 0, 6}, {2, 2, 1}, {0, 2, 4}, {2, 0, 4}};
        String[] wants = {"112345", "234566", "123123", "456456", "123456", "123456", "121234", "345656"};
        for (int k = 0; k < ways.length; k++) {
            SeasonStreets x = withRow(6);
            check.due("21 within a row", x.copy(0, ways[k][0], 0, ways[k][1], ways[k][2]), ways[k][2]);
            isRow("21 within a row", x, 0, wants[k]);
        }
    }

    private static void copiesToLikeLanes() {
        for (int lane = 0; lane < 3; lane++) {
            for (int other = 0; other < 3; other++) {
                SeasonStreets x = new SeasonStreets();
                x.sheet(0, lane, 2);
                x.sheet(3, other, 2);
                x.put(0, 0, -7);
                check.due("21 lane " + lane + " to " + other, x.copy(0, 0, 3, 1, 1), lane == other ? 1 : -12);
                check.due("21 it went", x.cell(3, 1, other), lane == other ? -7 : 0);
            }
        }
    }

    private static void aTextOfTheLastCells() {
        String text = "y203-01,p012";
        for (int ahead = 0; ahead <= 48; ahead += 16) {
            SeasonStreets x = new SeasonStreets();
            Desk.writeText(x, 3, 1, ahead, text);
            check.due("2 from " + ahead, x.city(3, 1, ahead, 12), 1);
            check.due("2 one cell too many from " + ahead, x.city(3, 1, ahead, 13), -13);
            check.due("2 one too far from " + ahead, x.city(3, 1, ahead + 1, 12), -13);
            check.due("2 a first fault is counted from there", x.city(3, 1, ahead, 11), -111);
        }
    }

    private static void traceIsZeroAtFirst() {
        check.due("25 at first", new SeasonStreets().trace(), 0);
        SeasonStreets x = Desk.withCity("y200,p000");
        check.due("25 behind a text", x.trace(), 0);
        x.as(0, 0);
        x.ofPlant(0, 0);
        check.due("25 behind calls without bodies", x.trace(), 0);
    }

    private static void traceWraps() {
        SeasonStreets x = Desk.withCity("y200,p000,w000");
        long far = 0;
        for (int call = 1; call <= 60; call++) {
            x.label(1);
            far = 31 * far + 5;
            int due = (int) (far & 0xFFFFFFFFL);
            far = due;
            check.due("25 behind " + call, x.trace(), due);
        }
        SeasonStreets y = Desk.withCity("y200,w000");
        for (int call = 0; call < 7; call++) {
            y.label(0);
        }
        // 5 times (31 to the seventh - 1) / 30 is 4,585,435,685, which is 290,468,389 beyond a whole turn.
        check.due("25 beyond an int's end", y.trace(), 290468389);
    }

    private static void bodiesLeaveTheirNumberAsTheyBegin() {
        check.due("5 a plant's body", traceOfTelling("p123"), 1);
        check.due("5 a shrub's, then a plant's", traceOfTelling("s123"), 31 * 2 + 1);
        check.due("5 a weed's, a shrub's, a plant's, a plant's", traceOfTelling("w123"),
            ((3 * 31 + 2) * 31 + 1) * 31 + 1);
        check.due("5 the lent body", traceOfLabel("p123"), 4);
        check.due("5 the lent body of a shrub", traceOfLabel("s123"), 4);
        check.due("5 a weed's own", traceOfLabel("w123"), 5);
    }

    private static int traceOfTelling(String plant) {
        SeasonStreets x = Desk.withCity("y200," + plant);
        x.tell(0);
        return x.trace();
    }

    private static int traceOfLabel(String plant) {
        SeasonStreets x = Desk.withCity("y200," + plant);
        x.label(0);
        return x.trace();
    }

    private static void tellingIsOfTheFirstWish() {
        for (int first = 0; first < 4; first++) {
            String wishes = first + "" + (first + 1) % 4 + "" + (first + 2) % 4;
            SeasonStreets x = Desk.withCity("y200,p" + wishes + ",s" + wishes + ",w" + wishes);
            check.due("22 a plant that wants " + first, x.tell(0), first);
            check.due("22 a shrub that wants " + first, x.tell(1), first + 100);
            check.due("22 a weed that wants " + first, x.tell(2), first + 100 + first);
        }
    }

    private static void labels() {
        String[] plants = {"p000,s000,w000", "w000,p000,s000", "s000,w000,p000"};
        int[][] wants = {{0, 1, 30}, {30, 1, 2}, {0, 30, 2}};
        for (int k = 0; k < 3; k++) {
            SeasonStreets x = Desk.withCity("y200," + plants[k]);
            for (int p = 0; p < 3; p++) {
                check.due("23 plant " + p + " of " + plants[k], x.label(p), wants[k][p]);
            }
        }
    }

    private static void eachIsAPlantToo() {
        SeasonStreets x = Desk.withCity("y200,w000,p000,s000");
        int[][] wants = {{1, 1, 1}, {1, -12, -12}, {1, 1, -12}};
        for (int p = 0; p < 3; p++) {
            for (int kind = 0; kind < 3; kind++) {
                check.due("24 plant " + p + " as " + kind, x.as(p, kind), wants[p][kind]);
                check.due("26 plant " + p + " as " + kind, x.fault(), wants[p][kind] == 1 ? 0 : 2);
            }
        }
    }

    private static void faultIsZeroAheadOfAny() {
        SeasonStreets x = new SeasonStreets();
        check.due("26 ahead of any", x.fault(), 0);
        x.lose(0);
        x.best();
        x.many(9);
        x.back(9);
        check.due("26 ahead of any that names one", x.fault(), 0);
    }

    private static void faultStaysBehindCallsThatNameNone() {
        for (int call = 0; call < 16; call++) {
            SeasonStreets x = Desk.withCity("y201-01,p000,s000,w000");
            x.put(3, 0, 0);
            callThatNamesNone(x, call);
            check.due("26 behind call " + call, x.fault(), 1);
            check.due("26 asked again", x.fault(), 1);
        }
    }

    private static void callThatNamesNone(SeasonStreets x, int call) {
        switch (call) {
            case 0: x.ofStreet(0, 0); break;
            case 1: x.ofPlant(0, 0); break;
            case 2: x.let(0, 1); break;
            case 3: x.corner(0, 1, false); break;
            case 4: x.quickest(1, 0, -1); break;
            case 5: x.mild(0, 1); break;
            case 6: x.best(); break;
            case 7: x.reading(0, 0); break;
            case 8: x.back(0); break;
            case 9: x.odds(0, 0, 1, 0); break;
            case 10: x.lose(0); break;
            case 11: x.lose(3); break;
            case 12: x.tell(2); break;
            case 13: x.label(2); break;
            case 14: x.trace(); break;
            default: x.many(0); break;
        }
    }

    private static void faultIsZeroBehindACallThatCameToNone() {
        int[] answers = {3, -100, -100, -100, 0, NONE, 15, 7, 15, 1, 1, 1, 1, 1};
        for (int call = 0; call < answers.length; call++) {
            SeasonStreets x = Desk.withCity("y201-01,p000,s000,w000");
            Desk.writeRoute(x, "01");
            x.put(3, 0, 0);
            check.due("26 a fault ahead", x.fault(), 1);
            check.due("26 call " + call, callThatCameToNone(x, call), answers[call]);
            check.due("26 behind call " + call, x.fault(), 0);
        }
    }

    private static long callThatCameToNone(SeasonStreets x, int call) {
        switch (call) {
            case 0: return x.city(0, 0, 0, 22);
            case 1: return x.city(0, 0, 0, 0);
            case 2: return x.city(1, 2, 0, 2);
            case 3: return x.city(0, 0, 1, 21);
            case 4: return x.route(1, 2, 0, 2, 0);
            case 5: return x.route(1, 2, 2, 0, 1);
            case 6: return x.seasons(0, 1, 2, 0, 2);
            case 7: return x.kinds(0, 1, 2, 0, 2);
            case 8: return x.wishes(0, 0, 1, 2, 0, 2);
            case 9: return x.sheet(3, 0, 0);
            case 10: return x.put(1, 1, 0);
            case 11: return x.cell(1, 1, 2);
            case 12: return x.copy(1, 0, 1, 1, 1);
            default: return x.as(2, 2);
        }
    }

    private static void faultIsOfTheLatest() {
        SeasonStreets x = Desk.withCity("y201,p000");
        x.put(3, 0, 0);
        check.due("26 NULL", x.fault(), 1);
        x.as(0, 1);
        check.due("26 CAST", x.fault(), 2);
        x.put(0, 60, 0);
        check.due("26 INDEX", x.fault(), 3);
        x.sheet(0, 0, -1);
        check.due("26 SIZE", x.fault(), 4);
        x.cell(3, 0, 0);
        check.due("26 NULL of a long", x.fault(), 1);
        x.copy(0, 0, 0, 0, -1);
        check.due("26 INDEX of a length below 0", x.fault(), 3);
        x.city(0, 0, 0, -1);
        check.due("26 SIZE of a length below 0", x.fault(), 4);
        Desk.writeRoute(x, "01");
        x.put(3, 0, 0);
        check.due("7 a first wrong", x.route(1, 2, 0, 2, 0), -101);
        check.due("26 a first wrong is none", x.fault(), 0);
        x.put(3, 0, 0);
        x.put(1, 1, 9);
        x.put(3, 0, 0);
        check.due("7 no street", x.route(1, 2, 0, 2, 0), UNKNOWN);
        check.due("26 a cell that is no street is none", x.fault(), 0);
        SeasonStreets none = new SeasonStreets();
        none.sheet(0, 0, 1);
        none.put(3, 0, 0);
        check.due("7 no city", none.route(0, 0, 0, 1, 0), -3);
        check.due("26 no city is none", none.fault(), 0);
    }

    private static void manyIsZeroWithoutACity() {
        SeasonStreets x = new SeasonStreets();
        Desk.tell(x, "y6123123-01-12,p000,p000,p00");
        for (int what = 0; what < 4; what++) {
            check.due("27 behind a text that is not taken, what " + what, x.many(what), 0);
        }
        x.reading(0, 0);
        x.corner(0, 1, true);
        check.due("27 no reading", x.many(3), 0);
        check.due("27 no corner", x.many(2), 0);
    }

    private static void eachPairOfCornersIsCountedOnce() {
        SeasonStreets x = Desk.withCity("y6000000,p000");
        int corners = 0;
        for (int a = 0; a < 6; a++) {
            for (int b = a + 1; b < 6; b++) {
                check.due("6 new", x.corner(b, a, true), 1);
                check.due("6 it was so", x.corner(a, b, true), 0);
                corners++;
                check.due("27 corners", x.many(2), corners);
            }
        }
        for (int a = 0; a < 6; a++) {
            check.due("3 to all others", x.ofStreet(a, 1), 63 - (1 << a));
        }
        for (int a = 0; a < 6; a++) {
            for (int b = a + 1; b < 6; b++) {
                check.due("6 gone", x.corner(a, b, false), 1);
                check.due("6 it was gone", x.corner(b, a, false), 0);
                corners--;
                check.due("27 corners left", x.many(2), corners);
            }
        }
        check.due("27 none left", corners, 0);
    }
}
