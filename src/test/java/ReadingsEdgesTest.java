/** The edges of readings, of what they leave open, and of odds: a test a sentence. */
final class ReadingsEdgesTest {
    private static final int OUTSIDE = -2, FULL = -4, NONE = -9;
    private static final Check check = new Check();

    public static void main(String[] args) {
        readingsAreEightAtMost();
        readingsAreNumberedByHowManyThereAre();
        daysAreZeroToTwentyThree();
        theLastReadingsAreTakenBack();
        allOrNoneAreTakenBack();
        withoutReadingsAllIsLeft();
        aReadingIsOfThatVeryDay();
        aReadingOfNotAtAll();
        allReadingsAreSo();
        readingsThatCannotBeTogether();
        thatTheRouteCannotBeDoesNotMatter();
        inPlaceOfWhatItIsAlone();
        aStreetOffTheRoute();
        kindsAreThree();
        wishesAreOfEachStage();
        routesOfNoDays();
        routesOfTwentyFourDays();
        partsOfASheet();
        askingChangesNothing();
        oddsOfOneDayToSix();
        oddsAreOfRoutesThatCanBe();
        allRoutesAreAlike();
        oddsOfRipeThen();
        oddsOfTheMostRoutes();
        check.end();
    }

    // In these cities a street has the season of its number, and no streets meet.
    private static SeasonStreets apart(String plants) {
        return Desk.withCity("y40123," + plants);
    }

    private static int seasons(SeasonStreets x, int s, String route) {
        Desk.writeRoute(x, route);
        return x.seasons(s, 1, 2, 0, route.length());
    }

    private static int kinds(SeasonStreets x, int p, String route) {
        Desk.writeRoute(x, route);
        return x.kinds(p, 1, 2, 0, route.length());
    }

    private static int wishes(SeasonStreets x, int p, int t, String route) {
        Desk.writeRoute(x, route);
        return x.wishes(p, t, 1, 2, 0, route.length());
    }

    private static void readingsAreEightAtMost() {
        SeasonStreets x = apart("p000");
        for (int number = 0; number < 8; number++) {
            check.due("11 not full ahead of " + number, x.reading(0, 5), number);
        }
        check.due("11 a ninth", x.reading(0, 5), FULL);
        check.due("11 a ninth again", x.reading(0, NONE), FULL);
        check.due("27 eight", x.many(3), 8);
        check.due("12 one back", x.back(1), 7);
        check.due("11 not full again", x.reading(0, 5), 7);
        check.due("11 full again", x.reading(0, 5), FULL);
        check.due("12 all back", x.back(8), 0);
        check.due("11 from the first again", x.reading(0, 5), 0);
    }

    private static void readingsAreNumberedByHowManyThereAre() {
        SeasonStreets x = apart("p000,p111");
        check.due("11 none: 0", x.reading(1, 0), 0);
        check.due("11 one: 1", x.reading(0, 0), 1);
        check.due("11 two, the same again: 2", x.reading(0, 0), 2);
        x.back(2);
        check.due("11 one again: 1", x.reading(1, NONE), 1);
        Desk.tell(x, "y200,p000");
        check.due("11 none by a new city: 0", x.reading(0, 23), 0);
    }

    private static void daysAreZeroToTwentyThree() {
        for (int day = -12; day < 27; day++) {
            SeasonStreets x = apart("p000");
            boolean is = day == NONE || day >= 0 && day <= 23;
            check.due("11 day " + day, x.reading(0, day), is ? 0 : OUTSIDE);
            check.due("27 readings behind day " + day, x.many(3), is ? 1 : 0);
        }
    }

    private static void theLastReadingsAreTakenBack() {
        SeasonStreets x = apart("p000");
        x.reading(0, 2);
        x.reading(0, 3);
        check.due("14 both can't be", kinds(x, 0, "0000"), 0);
        check.due("12 the last", x.back(1), 1);
        check.due("14 the first is left", kinds(x, 0, "0000"), 1 | 4);
        x.reading(0, NONE);
        x.reading(0, 4);
        check.due("12 the last two", x.back(2), 1);
        check.due("14 the first is left, too", kinds(x, 0, "0000"), 1 | 4);
    }

    private static void allOrNoneAreTakenBack() {
        for (int count = 0; count <= 8; count++) {
            SeasonStreets x = apart("p000");
            for (int number = 0; number < count; number++) {
                x.reading(0, number);
            }
            check.due("12 one too many of " + count, x.back(count + 1), OUTSIDE);
            check.due("12 none of " + count, x.back(0), count);
            check.due("12 all of " + count, x.back(count), 0);
            check.due("12 none of none", x.back(0), 0);
            check.due("12 one of none", x.back(1), OUTSIDE);
        }
        check.due("12 none without a city", new SeasonStreets().back(0), 0);
    }

    private static void withoutReadingsAllIsLeft() {
        SeasonStreets x = apart("p000,s111,w222");
        for (int k = 0; k < 3; k++) {
            check.due("13 all seasons of " + k, seasons(x, k, "000111"), 15);
            check.due("14 all kinds of " + k, kinds(x, k, "000111"), 7);
            check.due("15 all wishes of " + k, wishes(x, k, k, "000111"), 15);
        }
        check.due("13 all seasons of the last street", seasons(x, 3, "000111"), 15);
    }

    private static void aReadingIsOfThatVeryDay() {
        for (int day = 0; day < 6; day++) {
            SeasonStreets x = apart("p000");
            x.reading(0, day);
            check.due("14 ripe on day 2, read on " + day, kinds(x, 0, "000011"), day == 2 ? 1 | 4 : 0);
            check.due("15 third wish by day " + day, wishes(x, 0, 2, "001120"), new int[] {0, 0, 2, 0, 4, 1}[day]);
        }
    }

    private static void aReadingOfNotAtAll() {
        SeasonStreets x = apart("p000");
        x.reading(0, NONE);
        check.due("14 it is ripe but as a shrub", kinds(x, 0, "000"), 2);
        check.due("14 it is not ripe", kinds(x, 0, "00"), 7);
        check.due("14 nor by another season", kinds(x, 0, "222"), 7);
        check.due("15 wishes by which it is not", wishes(x, 0, 1, "001"), 15);
        check.due("15 wishes by which it is", wishes(x, 0, 2, "001"), 15 - 2);
        check.due("13 seasons by which it is not", seasons(x, 0, "000"), 15 - 1);
    }

    private static void allReadingsAreSo() {
        SeasonStreets x = apart("p000,p011,w300");
        x.reading(0, 2);
        check.due("13 by one", seasons(x, 1, "000111"), 15);
        x.reading(1, 4);
        check.due("13 by two", seasons(x, 1, "000111"), 1 << 1);
        check.due("13 by two, the other street", seasons(x, 0, "000111"), 1);
        x.reading(2, 2);
        check.due("15 by three", wishes(x, 2, 0, "000111"), 1 | 8);
        check.due("14 by three", kinds(x, 2, "000111"), 4);
        x.reading(2, NONE);
        check.due("15 by a fourth that can't be", wishes(x, 2, 0, "000111"), 0);
        check.due("15 nor for another plant", wishes(x, 0, 0, "000111"), 0);
    }

    private static void readingsThatCannotBeTogether() {
        SeasonStreets x = apart("p000,w123");
        for (int number = 0; number < 7; number++) {
            x.reading(0, 2);
        }
        check.due("13 seven alike", seasons(x, 0, "000"), 1);
        x.reading(0, 1);
        check.due("13 no season", seasons(x, 0, "000"), 0);
        check.due("14 no kind", kinds(x, 0, "000"), 0);
        check.due("14 no kind of another plant", kinds(x, 1, "000"), 0);
        check.due("15 no wish", wishes(x, 0, 1, "000"), 0);
        SeasonStreets early = apart("p000");
        early.reading(0, 1);
        check.due("15 ripe too early", wishes(early, 0, 0, "000000"), 0);
    }

    private static void thatTheRouteCannotBeDoesNotMatter() {
        SeasonStreets x = apart("p012");
        x.reading(0, 2);
        check.due("7 it can't be", Desk.route(x, "012", 1), 1);
        check.due("13 it does not matter", seasons(x, 2, "012"), 1 << 2);
        check.due("14 it does not matter", kinds(x, 0, "012"), 1 | 4);
        check.due("15 it does not matter", wishes(x, 0, 1, "012"), 1 << 1);
    }

    private static void inPlaceOfWhatItIsAlone() {
        SeasonStreets x = Desk.withCity("y501223,p012,p222");
        x.reading(0, 2);
        check.due("13 each street alone is what is asked", seasons(x, 2, "012"), 1 << 2);
        check.due("13 a street of like season stays what it is", seasons(x, 3, "012"), 15);
        check.due("15 each stage alone", wishes(x, 0, 2, "012"), 1 << 2);
        check.due("15 two stages wrong, one asked", wishes(x, 0, 0, "112"), 1 << 1);
        check.due("15 two stages wrong, one asked", wishes(x, 0, 0, "122"), 0);
        check.due("14 the kind alone", kinds(x, 0, "122"), 4);
        check.due("14 no kind alone is enough", kinds(x, 0, "111"), 0);
        SeasonStreets two = apart("s000,s111");
        two.reading(0, 2);
        two.reading(1, 5);
        check.due("14 two kinds wrong, one asked", kinds(two, 0, "000111"), 0);
    }

    private static void aStreetOffTheRoute() {
        SeasonStreets x = apart("p012");
        x.reading(0, 2);
        check.due("13 any season, if the readings are so", seasons(x, 3, "012"), 15);
        check.due("13 none, if they are not", seasons(x, 3, "011"), 0);
    }

    private static void kindsAreThree() {
        SeasonStreets x = apart("s123,p000");
        x.reading(0, 2);
        check.due("14 plant or weed", kinds(x, 0, "123"), 1 | 4);
        check.due("14 weed", kinds(x, 0, "230"), 4);
        x.back(1);
        x.reading(0, 5);
        check.due("14 shrub", kinds(x, 0, "112233"), 2);
        x.back(1);
        x.reading(0, NONE);
        check.due("14 all", kinds(x, 0, "321"), 7);
        check.due("14 plant or shrub", kinds(x, 0, "230"), 1 | 2);
    }

    private static void wishesAreOfEachStage() {
        SeasonStreets x = apart("p012,s012,w012");
        x.reading(0, 2);
        x.reading(1, NONE);
        x.reading(2, 2);
        for (int t = 0; t < 3; t++) {
            check.due("15 of a plant's stage " + t, wishes(x, 0, t, "012"), 1 << t);
            check.due("15 of a shrub's stage " + t, wishes(x, 1, t, "012"), 15);
            check.due("15 of a weed's stage " + t, wishes(x, 2, t, "012"), new int[] {1 | 8, 2 | 1, 4 | 2}[t]);
        }
    }

    private static void routesOfNoDays() {
        SeasonStreets x = apart("p000");
        check.due("13 no days", seasons(x, 0, ""), 15);
        x.reading(0, NONE);
        check.due("13 no days, not at all", seasons(x, 0, ""), 15);
        check.due("14 no days, not at all", kinds(x, 0, ""), 7);
        check.due("15 no days, not at all", wishes(x, 0, 0, ""), 15);
        x.reading(0, 0);
        check.due("13 no days, read on one", seasons(x, 0, ""), 0);
    }

    private static void routesOfTwentyFourDays() {
        SeasonStreets x = apart("p000");
        x.reading(0, 23);
        String row = "2".repeat(21) + "000";
        check.due("13 day 23", seasons(x, 0, row), 1);
        check.due("14 day 23", kinds(x, 0, row), 1 | 4);
        check.due("15 day 23", wishes(x, 0, 0, row), 1);
        check.due("13 25 days", seasons(x, 0, row + "0"), OUTSIDE);
        check.due("14 25 days", kinds(x, 0, row + "0"), OUTSIDE);
        check.due("15 25 days", wishes(x, 0, 0, row + "0"), OUTSIDE);
    }

    private static void partsOfASheet() {
        SeasonStreets x = apart("p012");
        x.reading(0, 2);
        for (int lane = 0; lane < 3; lane++) {
            x.sheet(2, lane, 60);
            x.put(2, 57, 0);
            x.put(2, 58, 1);
            x.put(2, 59, 2);
            check.due("13 the last three", x.seasons(1, 2, lane, 57, 3), 1 << 1);
            check.due("14 the last three", x.kinds(0, 2, lane, 57, 3), 1 | 4);
            check.due("15 the last three", x.wishes(0, 2, 2, lane, 57, 3), 1 << 2);
            check.due("15 ahead of them", x.wishes(0, 2, 2, lane, 56, 3), 0);
            check.due("15 none at the end", x.wishes(0, 2, 2, lane, 60, 0), 0);
            check.due("7 none at the end", x.route(2, lane, 60, 0, 1), NONE);
            check.due("7 the last three", x.route(2, lane, 57, 3, 1), 1);
        }
    }

    private static void askingChangesNothing() {
        SeasonStreets x = withReadings();
        seasons(x, 0, "0123");
        seasons(x, 3, "");
        kinds(x, 0, "0123");
        kinds(x, 2, "000000");
        wishes(x, 1, 1, "0123");
        wishes(x, 2, 2, "333");
        x.quickest(7, 0, -1);
        x.odds(0, 0, 6, 0);
        x.mild(0, 3);
        x.best();
        x.as(1, 1);
        SeasonStreets like = withReadings();
        Desk.writeRoute(like, "333");
        check.due("asking changes nothing", State.of(x).equals(State.of(like)) ? 1 : 0, 1);
    }

    private static SeasonStreets withReadings() {
        SeasonStreets x = apart("p012,s111,w333");
        x.reading(0, 2);
        x.reading(1, NONE);
        x.reading(2, 3);
        return x;
    }

    private static void share(String sentence, SeasonStreets x, int p, int from, int n, long upper, long lower) {
        check.due(sentence + ", upper", x.odds(p, from, n, 0), upper);
        check.due(sentence + ", lower", x.odds(p, from, n, 1), lower);
    }

    private static void oddsOfOneDayToSix() {
        SeasonStreets x = Desk.withCity("y201-01,p011");
        share("16 a day", x, 0, 0, 1, 0, 1);
        share("16 two days", x, 0, 0, 2, 0, 1);
        share("16 three days", x, 0, 0, 3, 1, 4);
        share("16 four days", x, 0, 0, 4, 1, 2);
        share("16 five days", x, 0, 0, 5, 11, 16);
        share("16 six days", x, 0, 0, 6, 13, 16);
        check.due("16 no day", x.odds(0, 0, 0, 0), Long.MIN_VALUE);
        check.due("16 seven days", x.odds(0, 0, 7, 0), Long.MIN_VALUE);
    }

    private static void oddsAreOfRoutesThatCanBe() {
        SeasonStreets x = Desk.withCity("y3010-12,p000");
        share("16 a street without corners has one route", x, 0, 0, 6, 1, 1);
        share("16 of one route, not yet", x, 0, 0, 2, 0, 1);
        x.corner(0, 1, true);
        share("16 of two corners", x, 0, 0, 3, 1, 5);
        x.corner(0, 2, true);
        share("16 of three corners", x, 0, 0, 3, 4, 9);
    }

    /** Each route has the same weight: not each step of it, by which it would be 1 of 6. */
    private static void allRoutesAreAlike() {
        share("16 in a row of streets", Desk.withCity(Desk.ROW), 0, 0, 3, 1, 5);
        SeasonStreets star = Desk.withCity("y501111-01-02-03-04,p011");
        share("16 from a star's end", star, 0, 1, 3, 0, 1);
        share("16 from a star's middle", star, 0, 0, 3, 4, 13);
    }

    private static void oddsOfRipeThen() {
        SeasonStreets x = Desk.withCity("y201-01,s000,w300,p000");
        share("16 a shrub", x, 0, 0, 6, 1, 32);
        share("16 a shrub from another street", x, 0, 1, 6, 0, 1);
        share("16 a weed at all events", x, 1, 0, 3, 1, 1);
        share("16 it stays ripe", x, 1, 0, 6, 1, 1);
        share("16 a plant that was ripe ahead of then", x, 2, 0, 4, 1, 2);
    }

    private static void oddsOfTheMostRoutes() {
        SeasonStreets x = Desk.withCity("y6000001-01-02-03-04-05-12-13-14-15,p111");
        for (int a = 2; a < 6; a++) {
            for (int b = a + 1; b < 6; b++) {
                x.corner(a, b, true);
            }
        }
        check.due("27 all streets meet", x.many(2), 15);
        share("16 1526 of 6 to the fifth routes", x, 0, 5, 6, 763, 3888);
    }
}
