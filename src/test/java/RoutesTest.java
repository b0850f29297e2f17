/** Promises 7 to 10: routes, the quickest, the mildest. */
final class RoutesTest {
    private static final int UNKNOWN = -1, OUTSIDE = -2, STATE = -3, NONE = -9;
    private static final Check check = new Check();

    public static void main(String[] args) {
        routesOfAPlant();
        routesOfAShrub();
        routesOfAWeed();
        ripeSet();
        firstWrong();
        colds();
        longestRoute();
        routeRefusals();
        quickest();
        quickestIsTheFirstAsARow();
        quickestOfTwentyFourDays();
        quickestRefusals();
        mild();
        best();
        check.end();
    }

    // In these cities a street has the season of its number, and all streets meet.
    private static SeasonStreets meeting(String plants) {
        return Desk.withCity("y40123-01-02-03-12-13-23" + plants);
    }

    private static void grows(String plant, String route, int stage, int ripeOn) {
        SeasonStreets x = meeting("," + plant);
        check.due("7 stage of " + plant + " by " + route, Desk.route(x, route, 20), stage);
        check.due("7 ripe day of " + plant + " by " + route, Desk.route(x, route, 10), ripeOn);
        check.due("7 ripe of " + plant + " by " + route, Desk.route(x, route, 0), stage == 3 ? 1 : 0);
    }

    private static void routesOfAPlant() {
        grows("p012", "", 0, NONE);
        grows("p012", "0", 1, NONE);
        grows("p012", "1", 0, NONE);
        grows("p012", "01", 2, NONE);
        grows("p012", "012", 3, 2);
        grows("p012", "0123", 3, 2);
        grows("p012", "30311212", 3, 5);
        grows("p222", "222", 3, 2);
    }

    private static void routesOfAShrub() {
        grows("s330", "3", 0, NONE);
        grows("s330", "33", 1, NONE);
        grows("s330", "323", 0, NONE);
        grows("s330", "333", 1, NONE);
        grows("s330", "3333", 2, NONE);
        grows("s330", "333300", 3, 5);
        grows("s330", "3332333300", 3, 9);
        grows("s330", "33233100", 3, 7);
        grows("s111", "11111", 2, NONE);
        grows("s111", "111111", 3, 5);
    }

    private static void routesOfAWeed() {
        grows("w202", "303", 3, 2);
        grows("w202", "213", 3, 2);
        grows("w202", "12", 1, NONE);
        grows("w333", "0", 1, NONE);
        grows("w333", "2", 0, NONE);
        grows("w333", "300", 3, 2);
        grows("w000", "111", 3, 2);
    }

    private static void ripeSet() {
        SeasonStreets x = meeting(",p012,s000,w012");
        check.due("7 first and third", Desk.route(x, "012", 0), 5);
        check.due("7 all", Desk.route(x, "000000123", 0), 7);
        check.due("7 third alone", Desk.route(x, "123", 0), 4);
        check.due("7 ripe day of the second", Desk.route(x, "000000123", 11), 5);
        check.due("7 ripe day of the third", Desk.route(x, "000000123", 12), 7);
        check.due("7 stage of the second", Desk.route(x, "000011", 21), 2);
        check.due("7 stage of the third", Desk.route(x, "0", 22), 1);
        SeasonStreets lone = meeting(",p012");
        check.due("7 no such plant's day", Desk.route(lone, "012", 11), NONE);
        check.due("7 no such plant's stage", Desk.route(lone, "012", 22), NONE);
    }

    private static void firstWrong() {
        SeasonStreets x = Desk.withCity(Desk.ROW);
        int[] whats = {0, 2, 10, 11, 12, 20, 21, 22};
        check.due("7 none wrong", Desk.route(x, "0011234", 1), NONE);
        check.due("7 none wrong of none", Desk.route(x, "", 1), NONE);
        check.due("7 none wrong of one", Desk.route(x, "4", 1), NONE);
        check.due("7 wrong", Desk.route(x, "0013314", 1), 3);
        for (int what : whats) {
            check.due("7 wrong, what " + what, Desk.route(x, "0013314", what), -103);
        }
        SeasonStreets lone = Desk.withCity("y201,p000");
        check.due("7 wrong ahead of no such plant", Desk.route(lone, "01", 12), -101);
    }

    private static void colds() {
        SeasonStreets x = meeting(",p012");
        check.due("7 no colds", Desk.route(x, "", 2), 0);
        check.due("7 no colds of staying", Desk.route(x, "222", 2), 0);
        check.due("7 colds 0 to 3", Desk.route(x, "03", 2), 1);
        check.due("7 colds 0 to 2", Desk.route(x, "02", 2), 2);
        check.due("7 colds together", Desk.route(x, "0213300", 2), 2 + 1 + 2 + 0 + 1);
        x.let(3, 0);
        check.due("7 colds between like seasons", Desk.route(x, "03", 2), 0);
    }

    private static void longestRoute() {
        SeasonStreets x = meeting(",p012");
        check.due("7 24 days", Desk.route(x, "0".repeat(22) + "12", 10), 23);
        check.due("7 25 days", Desk.route(x, "0".repeat(23) + "12", 10), OUTSIDE);
        x.sheet(2, 0, 60);
        x.put(2, 57, 0);
        x.put(2, 58, 1);
        x.put(2, 59, 2);
        check.due("7 of a part, as bytes", x.route(2, 0, 57, 3, 10), 2);
        x.sheet(2, 1, 3);
        x.put(2, 1, 65536 + 1);
        x.put(2, 2, 2);
        check.due("7 as shorts", x.route(2, 1, 0, 3, 10), 2);
    }

    private static void routeRefusals() {
        SeasonStreets x = new SeasonStreets();
        Desk.writeRoute(x, "0123");
        check.due("7 sheet -1", x.route(-1, 9, 0, 1, 0), UNKNOWN);
        check.due("7 sheet 4", x.route(4, 2, 0, 1, 0), UNKNOWN);
        check.due("7 lane 3", x.route(1, 3, 0, 1, 0), OUTSIDE);
        check.due("7 lane -1", x.route(1, -1, 0, 1, 0), OUTSIDE);
        check.due("7 n -1", x.route(1, 2, 0, -1, 0), OUTSIDE);
        check.due("7 n 25", x.route(1, 2, 0, 25, 0), OUTSIDE);
        int[] whats = {-1, 3, 9, 13, 19, 23, Integer.MIN_VALUE, Integer.MAX_VALUE};
        for (int what : whats) {
            check.due("7 what " + what, x.route(1, 2, 0, 1, what), OUTSIDE);
        }
        check.due("7 cast", x.route(1, 0, 9, 9, 0), -12);
        check.due("7 cast told", x.fault(), 2);
        check.due("7 null", x.route(2, 0, 9, 9, 0), -11);
        check.due("7 null told", x.fault(), 1);
        check.due("7 index", x.route(1, 2, 1, 4, 0), -13);
        check.due("7 index told", x.fault(), 3);
        check.due("7 index below 0", x.route(1, 2, -1, 1, 0), -13);
        check.due("7 index of none", x.route(1, 2, 5, 0, 0), -13);
        check.due("7 index of the most", x.route(1, 2, Integer.MAX_VALUE, 24, 0), -13);
        check.due("7 no city", x.route(1, 2, 4, 0, 1), STATE);
        check.due("7 refused is no fault", x.fault(), 0);
        Desk.tell(x, "y40123,p012");
        check.due("7 a street that there is", x.route(1, 2, 3, 1, 1), NONE);
        x.put(1, 3, 4);
        check.due("7 no street 4", x.route(1, 2, 0, 4, 1), UNKNOWN);
        check.due("7 not among the cells", x.route(1, 2, 0, 1, 1), NONE);
        x.put(1, 0, -1);
        check.due("7 no street -1", x.route(1, 2, 0, 2, 0), UNKNOWN);
    }

    private static void quickestRow(SeasonStreets x, int set, int from, String row) {
        String told = "8 set " + set + " from " + from;
        check.due(told, x.quickest(set, from, -1), row.length());
        for (int k = 0; k < 24; k++) {
            int due = k < row.length() ? row.charAt(k) - '0' : NONE;
            check.due(told + " day " + k, x.quickest(set, from, k), due);
        }
    }

    private static void quickest() {
        SeasonStreets x = Desk.withCity(Desk.ROW);
        quickestRow(x, 0, 1, "");
        quickestRow(x, 1, 0, "012");
        quickestRow(x, 1, 3, "321012");
        quickestRow(x, 2, 3, "333344");
        quickestRow(x, 2, 0, "012333344");
        quickestRow(x, 7, 2, "21012333344");
        quickestRow(meeting(",p123"), 1, 0, "0123");
        quickestRow(meeting(",p123,p122,w112"), 7, 0, "01223");
        x.corner(2, 3, false);
        check.due("8 no way", x.quickest(2, 0, -1), NONE);
        check.due("8 no way, no day", x.quickest(2, 0, 0), NONE);
        quickestRow(x, 1, 0, "012");
        x.let(0, 2);
        check.due("8 no such season", x.quickest(1, 0, -1), NONE);
        check.due("8 empty set ahead of all", x.quickest(0, 0, -1), 0);
    }

    private static void quickestIsTheFirstAsARow() {
        // Streets 1 and 2 have the season that is wanted, and so do 0 and 3: each row ties.
        SeasonStreets x = Desk.withCity("y40110-01-02-13-23-03-12,p010");
        quickestRow(x, 1, 0, "010");
        quickestRow(x, 1, 3, "310");
        x.corner(0, 1, false);
        quickestRow(x, 1, 0, "020");
        quickestRow(x, 1, 3, "313");
        x.corner(1, 3, false);
        quickestRow(x, 1, 3, "320");
    }

    private static void quickestOfTwentyFourDays() {
        // Six streets in a row; a shrub wants its ends by turns: 2 days, then 5 steps and 1 day more, twice.
        SeasonStreets x = Desk.withCity("y6012123-01-12-23-34-45,s030,s303,s111");
        check.due("8 there and back", x.quickest(1, 0, -1), 2 + 6 + 6);
        check.due("8 there and back and there", x.quickest(3, 0, -1), 2 + 6 + 6 + 6);
        // The third shrub wants 3 days of staying on the way, too.
        quickestRow(x, 7, 0, "00112334554321001123455");
        quickestRow(x, 7, 1, "100112334554321001123455");
        quickestRow(x, 7, 4, "455432100112334554321100");
        check.due("8 it takes 25 days", x.quickest(7, 2, -1), NONE);
        check.due("8 it takes 25 days, the first one", x.quickest(7, 3, 0), NONE);
    }

    private static void quickestRefusals() {
        SeasonStreets x = Desk.withCity("y201-01,p012,p012");
        check.due("8 street 2", x.quickest(9, 2, 99), UNKNOWN);
        check.due("8 street -1", x.quickest(0, -1, 0), UNKNOWN);
        check.due("8 set of a third plant", x.quickest(4, 0, 0), OUTSIDE);
        check.due("8 set -1", x.quickest(-1, 0, 0), OUTSIDE);
        check.due("8 k -2", x.quickest(1, 0, -2), OUTSIDE);
        check.due("8 k 24", x.quickest(1, 0, 24), OUTSIDE);
        check.due("8 k 23", x.quickest(1, 0, 23), NONE);
        check.due("8 no city", new SeasonStreets().quickest(0, 0, -1), UNKNOWN);
    }

    private static void mild() {
        SeasonStreets x = Desk.withCity(Desk.ROW);
        for (int a = 0; a < 5; a++) {
            for (int b = 0; b < 5; b++) {
                check.due("9 in a row", x.mild(a, b), Math.abs(a - b));
            }
        }
        SeasonStreets round = Desk.withCity("y502132-04-40-01-12-23-34,p000");
        check.due("9 at once", round.mild(0, 1), 2);
        check.due("9 at once, as mild as any", round.mild(0, 4), 2);
        round.let(1, 0);
        round.let(2, 0);
        round.let(3, 1);
        check.due("9 more steps, fewer colds", round.mild(0, 3), 1);
        check.due("9 as far round", round.mild(4, 0), 2);
        round.corner(0, 1, false);
        check.due("9 the other way", round.mild(0, 1), 2 + 1 + 1);
        round.corner(1, 2, false);
        check.due("9 no way", round.mild(0, 1), NONE);
        check.due("9 to itself", round.mild(1, 1), 0);
        SeasonStreets most = Desk.withCity("y6020202-01-12-23-34-45,p000");
        check.due("9 the most colds of all", most.mild(0, 5), 10);
        check.due("9 the most colds of all, back", most.mild(5, 0), 10);
        check.due("9 street 5", round.mild(0, 5), UNKNOWN);
        check.due("9 street -1", round.mild(-1, 0), UNKNOWN);
        check.due("9 no city", new SeasonStreets().mild(0, 0), UNKNOWN);
    }

    private static void best() {
        check.due("10 no city", new SeasonStreets().best(), STATE);
        SeasonStreets x = Desk.withCity(Desk.ROW);
        check.due("10 the middle", x.best(), 2);
        x.corner(0, 4, true);
        check.due("10 the least of several", x.best(), 0);
        x.corner(0, 4, false);
        x.corner(3, 4, false);
        check.due("10 none has a way to all", x.best(), NONE);
        x.corner(4, 1, true);
        check.due("10 a star's middle", x.best(), 1);
        SeasonStreets most = Desk.withCity("y6020202-05-50-04-13-32,p000");
        check.due("10 in two parts", most.best(), NONE);
        most.corner(4, 1, true);
        check.due("10 both parts together", most.best(), 0);
        SeasonStreets last = Desk.withCity("y3021-02-21,p000");
        check.due("10 the last one", last.best(), 2);
    }
}
