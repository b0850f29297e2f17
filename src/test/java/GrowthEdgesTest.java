/** The edges that "Terms" names of growth, routes, the quickest, colds: a test a sentence. */
final class GrowthEdgesTest {
    private static final int OUTSIDE = -2, NONE = -9;
    private static final Check check = new Check();

    public static void main(String[] args) {
        stageIsZeroAtFirst();
        aPlantThatIsRipeDoesNotComeOn();
        aPlantComesOneStageADay();
        aPlantWaitsForItsSeason();
        aShrubNeedsTwoDaysRunning();
        aShrubsDaysThatBroughtItOnDoNotCount();
        aWeedTakesTheSeasonBehind();
        behindThreeIsZero();
        aWeedComesOnByADay();
        ripeWithThreeStages();
        theFirstWrongIsTheFirst();
        dayZeroIsNeverWrong();
        stayingIsNotWrong();
        ripeOnTheFirstDay();
        eachPlantIsAskedByItsNumber();
        noSuchPlantIsNone();
        aFirstWrongIsToldAheadOfAll();
        routesOfNoDayAndOfTwentyFour();
        theQuickestStartsOnDayZero();
        theQuickestIsOfTheFewestDays();
        theQuickestTakesTwentyFourDaysAtMost();
        theQuickestIsTheFirstAsARow();
        theQuickestIsNone();
        coldsAreZeroToTwo();
        mildToItselfIsZero();
        mildIsTheFewestColds();
        mildIsNoneWithoutAWay();
        bestIsOfThoseWithAWayToAll();
        bestIsTheLeastOfSeveral();
        check.end();
    }

    // In these cities a street has the season of its number, and all streets meet.
    private static SeasonStreets meeting(String plants) {
        return Desk.withCity("y40123-01-02-03-12-13-23," + plants);
    }

    private static int stage(String plant, String route) {
        return Desk.route(meeting(plant), route, 20);
    }

    private static void stageIsZeroAtFirst() {
        for (String kind : new String[] {"p", "s", "w"}) {
            check.due("7 no day: " + kind, stage(kind + "000", ""), 0);
            check.due("7 a day in another season: " + kind, stage(kind + "000", "2"), 0);
        }
    }

    private static void aPlantThatIsRipeDoesNotComeOn() {
        for (int days = 3; days <= 24; days++) {
            check.due("7 a plant of " + days, stage("p000", "0".repeat(days)), 3);
            check.due("7 a weed of " + days, stage("w000", "0".repeat(days)), 3);
            check.due("7 a shrub of " + days, stage("s000", "0".repeat(days)), Math.min(3, days / 2));
            check.due("7 it stays ripe", Desk.route(meeting("p000"), "000" + "2".repeat(days - 3), 0), 1);
        }
    }

    private static void aPlantComesOneStageADay() {
        check.due("7 a day", stage("p000", "0"), 1);
        check.due("7 two days", stage("p000", "00"), 2);
        check.due("7 three days", stage("p000", "000"), 3);
    }

    private static void aPlantWaitsForItsSeason() {
        for (int season = 0; season < 4; season++) {
            check.due("7 first wants 2: " + season, stage("p213", "" + season), season == 2 ? 1 : 0);
            check.due("7 then wants 1: " + season, stage("p213", "2" + season), season == 1 ? 2 : 1);
            check.due("7 then wants 3: " + season, stage("p213", "21" + season), season == 3 ? 3 : 2);
        }
        check.due("7 the second's first does not count", stage("p213", "12"), 1);
    }

    private static void aShrubNeedsTwoDaysRunning() {
        check.due("7 one day", stage("s122", "1"), 0);
        check.due("7 two days", stage("s122", "11"), 1);
        check.due("7 two days, not running", stage("s122", "101"), 0);
        check.due("7 then two running", stage("s122", "1011"), 1);
        check.due("7 a day of the next season between", stage("s122", "121"), 0);
        check.due("7 the season behind is not it", stage("s122", "12"), 0);
        check.due("7 behind the last day of the wrong one", stage("s122", "011"), 1);
    }

    private static void aShrubsDaysThatBroughtItOnDoNotCount() {
        check.due("7 three days alike", stage("s111", "111"), 1);
        check.due("7 four days alike", stage("s111", "1111"), 2);
        check.due("7 five days alike", stage("s111", "11111"), 2);
        check.due("7 six days alike", stage("s111", "111111"), 3);
        check.due("7 a break behind a stage", stage("s111", "11011"), 2);
        check.due("7 a break behind a stage and a day", stage("s111", "1110111"), 2);
        check.due("7 a day behind a stage, a break, a day", stage("s111", "111011"), 2);
        check.due("7 the same with another wish", stage("s110", "11110"), 2);
        check.due("7 its two days", stage("s110", "111100"), 3);
    }

    private static void aWeedTakesTheSeasonBehind() {
        for (int wants = 0; wants < 4; wants++) {
            for (int season = 0; season < 4; season++) {
                boolean is = season == wants || season == (wants == 3 ? 0 : wants + 1);
                String told = "wants " + wants + ", season " + season;
                check.due("7 a weed " + told, stage("w" + wants + "11", "" + season), is ? 1 : 0);
                check.due("7 a plant " + told, stage("p" + wants + "11", "" + season), season == wants ? 1 : 0);
                check.due("7 a shrub " + told, stage("s" + wants + "11", "" + season + season),
                    season == wants ? 1 : 0);
            }
        }
    }

    private static void behindThreeIsZero() {
        check.due("7 0 behind 3", stage("w333", "000"), 3);
        check.due("7 3 itself", stage("w333", "333"), 3);
        check.due("7 not 2", stage("w333", "222"), 0);
        check.due("7 not 1", stage("w333", "111"), 0);
    }

    private static void aWeedComesOnByADay() {
        check.due("7 not by two as a shrub", stage("w012", "012"), 3);
        check.due("7 by the seasons behind", stage("w012", "123"), 3);
        check.due("7 by both", stage("w012", "022"), 3);
        check.due("7 one stage a day, if both are it", stage("w011", "1"), 1);
    }

    private static void ripeWithThreeStages() {
        for (String plant : new String[] {"p012", "s012", "w012"}) {
            String two = plant.charAt(0) == 's' ? "0011" : "01";
            String three = plant.charAt(0) == 's' ? "001122" : "012";
            check.due("7 not with two: " + plant, Desk.route(meeting(plant), two, 0), 0);
            check.due("7 no day with two: " + plant, Desk.route(meeting(plant), two, 10), NONE);
            check.due("7 with three: " + plant, Desk.route(meeting(plant), three, 0), 1);
            check.due("7 its day: " + plant, Desk.route(meeting(plant), three, 10), three.length() - 1);
        }
    }

    private static void theFirstWrongIsTheFirst() {
        SeasonStreets x = Desk.withCity(Desk.ROW);
        check.due("7 on day 1", Desk.route(x, "02", 1), 1);
        check.due("7 on day 1, back", Desk.route(x, "20", 1), 1);
        check.due("7 of three", Desk.route(x, "0130402", 1), 2);
        for (int day = 1; day < 24; day++) {
            String row = "0".repeat(day) + "4".repeat(24 - day);
            check.due("7 on day " + day, Desk.route(x, row, 1), day);
            check.due("7 -100 less it", Desk.route(x, row, 0), -100 - day);
        }
        x.corner(0, 4, true);
        check.due("7 a corner that is new", Desk.route(x, "04", 1), NONE);
        x.corner(0, 1, false);
        check.due("7 a corner that is gone", Desk.route(x, "01", 1), 1);
    }

    private static void dayZeroIsNeverWrong() {
        SeasonStreets x = Desk.withCity("y6000000,p000");
        for (int s = 0; s < 6; s++) {
            check.due("7 from " + s, Desk.route(x, "" + s, 1), NONE);
        }
        check.due("7 of no day", Desk.route(x, "", 1), NONE);
    }

    private static void stayingIsNotWrong() {
        SeasonStreets x = Desk.withCity("y6000000,p000");
        for (int s = 0; s < 6; s++) {
            check.due("7 staying in " + s, Desk.route(x, ("" + s).repeat(24), 1), NONE);
        }
        check.due("7 staying, then not", Desk.route(x, "0001", 1), 3);
    }

    private static void ripeOnTheFirstDay() {
        check.due("7 the first day of several", Desk.route(meeting("p000"), "0000000", 10), 2);
        check.due("7 the last day", Desk.route(meeting("p000"), "1".repeat(21) + "000", 10), 23);
        check.due("7 a day too late", Desk.route(meeting("p000"), "1".repeat(22) + "00", 10), NONE);
        check.due("7 day 0 at no time", Desk.route(meeting("p000"), "0", 10), NONE);
    }

    private static void eachPlantIsAskedByItsNumber() {
        SeasonStreets x = meeting("p012,s001,w122");
        int[] ripeDays = {4, NONE, 5};
        int[] stages = {3, 1, 3};
        for (int p = 0; p < 3; p++) {
            check.due("7 what " + (10 + p), Desk.route(x, "000123", 10 + p), ripeDays[p]);
            check.due("7 what " + (20 + p), Desk.route(x, "000123", 20 + p), stages[p]);
        }
        check.due("7 what 0: the set of them", Desk.route(x, "000123", 0), 1 | 4);
        check.due("7 what 0: another set", Desk.route(x, "0000112", 0), 1 | 2);
    }

    private static void noSuchPlantIsNone() {
        for (int count = 1; count <= 3; count++) {
            SeasonStreets x = meeting("p000,p000,p000".substring(0, 5 * count - 1));
            for (int p = 0; p < 3; p++) {
                boolean is = p < count;
                check.due("7 the day of " + p + " of " + count, Desk.route(x, "0001", 10 + p), is ? 2 : NONE);
                check.due("7 the stage of " + p + " of " + count, Desk.route(x, "0001", 20 + p), is ? 3 : NONE);
                check.due("7 no day of " + p + " of " + count, Desk.route(x, "", 10 + p), NONE);
                check.due("7 no stage of " + p + " of " + count, Desk.route(x, "", 20 + p), is ? 0 : NONE);
            }
        }
        // A city of more plants ahead leaves nothing of them.
        SeasonStreets x = meeting("s000,s000,s000");
        Desk.tell(x, "y40123,p111");
        check.due("7 the day of a plant that was", Desk.route(x, "000000", 11), NONE);
        check.due("7 the stage of a plant that was", Desk.route(x, "000000", 22), NONE);
    }

    private static void aFirstWrongIsToldAheadOfAll() {
        SeasonStreets x = Desk.withCity("y3010-01,p010");
        for (int what : new int[] {0, 2, 10, 11, 12, 20, 21, 22}) {
            check.due("7 -100 less it, what " + what, Desk.route(x, "0102", what), -103);
        }
        check.due("7 but what 1", Desk.route(x, "0102", 1), 3);
        check.due("7 what it is without", Desk.route(x, "010", 10), 2);
    }

    private static void routesOfNoDayAndOfTwentyFour() {
        SeasonStreets x = meeting("p000");
        check.due("7 no day, none ripe", Desk.route(x, "", 0), 0);
        check.due("7 no day, no wrong", Desk.route(x, "", 1), NONE);
        check.due("7 no day, no colds", Desk.route(x, "", 2), 0);
        String most = "13".repeat(11) + "00";
        check.due("7 24 days", Desk.route(x, most, 20), 2);
        check.due("7 24 days' colds", Desk.route(x, most, 2), 21 * 2 + 1);
        check.due("7 25 days", Desk.route(x, most + "0", 20), OUTSIDE);
        check.due("7 25 days, what 1", Desk.route(x, most + "0", 1), OUTSIDE);
    }

    private static void row(String sentence, SeasonStreets x, int set, int from, String row) {
        check.due(sentence + ", days", x.quickest(set, from, -1), row.length());
        for (int k = 0; k < 24; k++) {
            check.due(sentence + ", day " + k, x.quickest(set, from, k), k < row.length() ? row.charAt(k) - '0' : NONE);
        }
    }

    private static void theQuickestStartsOnDayZero() {
        row("8 day 0 counts", meeting("p000"), 1, 0, "000");
        row("8 day 0 in another season", meeting("p000"), 1, 1, "1000");
        row("8 a shrub's first of two is day 0", meeting("s011"), 1, 0, "001111");
        row("8 no plants, no day 0", meeting("p000"), 0, 0, "");
    }

    private static void theQuickestIsOfTheFewestDays() {
        row("8 not the first as a row, if it is longer", Desk.withCity("y40123-01-12-23-03,p033"), 1, 0, "033");
        row("8 the shorter way to the season", Desk.withCity("y501123-01-12-23-34-04,p033"), 1, 0, "044");
        row("8 the longer way without that corner", Desk.withCity("y501123-01-12-23-34,p033"), 1, 0, "012344");
        row("8 two plants by the same days", meeting("p000,w300"), 3, 0, "000");
        row("8 two plants by turns", meeting("p000,p111"), 3, 1, "100011");
        row("8 a plant that is not told does not count", meeting("p000,p111"), 2, 1, "111");
    }

    private static void theQuickestTakesTwentyFourDaysAtMost() {
        // Two shrubs want the row's ends by turns, the third wants days of staying on the way.
        SeasonStreets x = Desk.withCity("y6012123-01-12-23-34-45,s030,s303,s111");
        row("8 23 days", x, 7, 0, "00112334554321001123455");
        row("8 24 days", x, 7, 1, "100112334554321001123455");
        row("8 24 days from the other end", x, 7, 4, "455432100112334554321100");
        check.due("8 25 days", x.quickest(7, 2, -1), NONE);
        check.due("8 25 days, its first", x.quickest(7, 2, 0), NONE);
        check.due("8 25 days, its last but one", x.quickest(7, 2, 23), NONE);
        check.due("8 no day 24", x.quickest(7, 1, 24), OUTSIDE);
    }

    private static void theQuickestIsTheFirstAsARow() {
        SeasonStreets x = Desk.withCity("y40110-01-02-13-23,p011");
        row("8 of two streets alike the lesser", x, 1, 0, "011");
        row("8 the same from the other end", x, 1, 3, "311");
        x.corner(0, 1, false);
        row("8 the greater, if it is alone", x, 1, 0, "022");
        x.corner(0, 1, true);
        x.corner(1, 3, false);
        row("8 the greater from the other end", x, 1, 3, "322");
        SeasonStreets like = Desk.withCity("y3000-01-02-12,p000");
        for (int from = 0; from < 3; from++) {
            row("8 all alike", like, 1, from, from + "00");
        }
        like.corner(0, 2, false);
        row("8 the first that can be", like, 1, 2, "210");
    }

    private static void theQuickestIsNone() {
        SeasonStreets x = Desk.withCity("y3012-01,p011,p012");
        check.due("8 a season to which there is no way", x.quickest(2, 0, -1), NONE);
        check.due("8 it and another one", x.quickest(3, 0, -1), NONE);
        check.due("8 the other one alone", x.quickest(1, 0, -1), 3);
        check.due("8 by none, no day", x.quickest(2, 0, 0), NONE);
        check.due("8 the empty set", x.quickest(0, 2, -1), 0);
        check.due("8 the empty set takes no day", x.quickest(0, 2, 0), NONE);
        x.corner(1, 2, true);
        check.due("8 a way", x.quickest(2, 0, -1), 3);
        x.let(2, 3);
        check.due("8 a season that no street has", x.quickest(2, 0, -1), NONE);
        check.due("8 a day that it does not take", x.quickest(1, 0, 3), NONE);
        check.due("8 its last day", x.quickest(1, 0, 2), 1);
    }

    private static void coldsAreZeroToTwo() {
        int[][] colds = {{0, 1, 2, 1}, {1, 0, 1, 2}, {2, 1, 0, 1}, {1, 2, 1, 0}};
        SeasonStreets x = Desk.withCity("y200-01,p000");
        for (int a = 0; a < 4; a++) {
            for (int b = 0; b < 4; b++) {
                x.let(0, a);
                x.let(1, b);
                check.due("7 colds from " + a + " to " + b, Desk.route(x, "01", 2), colds[a][b]);
                check.due("9 colds from " + a + " to " + b, x.mild(0, 1), colds[a][b]);
            }
        }
        check.due("7 no step, no colds", Desk.route(x, "0", 2), 0);
        x.let(0, 1);
        check.due("7 23 steps of the most colds", Desk.route(x, "01".repeat(12), 2), 46);
        check.due("7 staying is without colds", Desk.route(x, "00001111", 2), 2);
    }

    private static void mildToItselfIsZero() {
        SeasonStreets x = Desk.withCity("y6012301,p000");
        SeasonStreets met = Desk.withCity("y6012301-01-12-23-34-45,p000");
        for (int s = 0; s < 6; s++) {
            check.due("9 to itself without corners: " + s, x.mild(s, s), 0);
            check.due("9 to itself with corners: " + s, met.mild(s, s), 0);
        }
    }

    private static void mildIsTheFewestColds() {
        SeasonStreets x = Desk.withCity("y502000-01-12-03-34-42,p000");
        check.due("9 more steps with fewer colds", x.mild(0, 2), 0);
        check.due("9 back", x.mild(2, 0), 0);
        check.due("9 at once", x.mild(0, 1), 2);
        x.corner(3, 4, false);
        check.due("9 the only way left", x.mild(0, 2), 4);
        SeasonStreets most = Desk.withCity("y6020202-01-12-23-34-45,p000");
        check.due("9 the most colds that there can be", most.mild(0, 5), 10);
        check.due("9 back", most.mild(5, 0), 10);
        most.corner(0, 5, true);
        check.due("9 a corner at once", most.mild(0, 5), 2);
    }

    private static void mildIsNoneWithoutAWay() {
        SeasonStreets x = Desk.withCity("y6000000-01-12-34,p000");
        for (int a = 0; a < 6; a++) {
            for (int b = 0; b < 6; b++) {
                boolean way = a == b || a < 3 && b < 3 || a + b == 7 && a > 2 && b > 2;
                check.due("9 from " + a + " to " + b, x.mild(a, b), way ? 0 : NONE);
            }
        }
    }

    private static void bestIsOfThoseWithAWayToAll() {
        check.due("10 two streets without a corner", Desk.withCity("y200,p000").best(), NONE);
        SeasonStreets x = Desk.withCity("y40123-01-12,p000");
        check.due("10 one street to which there is no way", x.best(), NONE);
        x.corner(2, 3, true);
        check.due("10 a way to all", x.best(), 1);
        SeasonStreets parts = Desk.withCity("y6000000-01-12-20-34-45-53,p000");
        check.due("10 two parts", parts.best(), NONE);
        parts.corner(5, 0, true);
        check.due("10 the parts together", parts.best(), 0);
    }

    private static void bestIsTheLeastOfSeveral() {
        check.due("10 all alike", Desk.withCity("y6000000-54-43-32-21-10,p000").best(), 0);
        check.due("10 two in the middle", Desk.withCity("y40123-01-12-23,p000").best(), 1);
        check.due("10 two in the middle, the other way", Desk.withCity("y43210-01-12-23,p000").best(), 1);
        check.due("10 the most colds count, not all together",
            Desk.withCity("y6000123-01-02-03-34-45,p000").best(), 3);
        check.due("10 the last street alone", Desk.withCity("y3021-02-21,p000").best(), 2);
    }
}
