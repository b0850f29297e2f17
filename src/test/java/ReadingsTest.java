/** Promises 11 to 16: readings, what they leave open, odds. */
final class ReadingsTest {
    private static final int UNKNOWN = -1, OUTSIDE = -2, FULL = -4, NONE = -9;
    private static final long LOST = Long.MIN_VALUE;
    private static final Check check = new Check();

    public static void main(String[] args) {
        reading();
        back();
        seasons();
        kinds();
        wishes();
        readingsHoldTogether();
        askingChangesNothing();
        refusalsOfAsking();
        odds();
        oddsRefusals();
        check.end();
    }

    // In this city a street has the season of its number, and no streets meet.
    private static SeasonStreets apart(String plants) {
        return Desk.withCity("y40123" + plants);
    }

    private static void reading() {
        SeasonStreets x = apart(",p012,s000");
        check.due("11 first", x.reading(0, 0), 0);
        check.due("11 latest day", x.reading(1, 23), 1);
        check.due("11 not at all", x.reading(1, NONE), 2);
        check.due("11 the same again", x.reading(1, NONE), 3);
        check.due("11 how many", x.many(3), 4);
        check.due("11 plant 2", x.reading(2, 99), UNKNOWN);
        check.due("11 plant -1", x.reading(-1, 0), UNKNOWN);
        check.due("11 day 24", x.reading(0, 24), OUTSIDE);
        check.due("11 day -1", x.reading(0, -1), OUTSIDE);
        check.due("11 day -8", x.reading(0, -8), OUTSIDE);
        check.due("11 day -10", x.reading(0, -10), OUTSIDE);
        for (int number = 4; number < 8; number++) {
            check.due("11 number", x.reading(0, number), number);
        }
        check.due("11 a ninth", x.reading(0, 0), FULL);
        check.due("11 a ninth that is outside", x.reading(0, 24), OUTSIDE);
        check.due("11 a ninth of no plant", x.reading(2, 0), UNKNOWN);
        check.due("11 eight", x.many(3), 8);
        check.due("11 no city", new SeasonStreets().reading(0, 0), UNKNOWN);
    }

    private static void back() {
        SeasonStreets x = apart(",p012");
        check.due("12 none of none", x.back(0), 0);
        check.due("12 one of none", x.back(1), OUTSIDE);
        x.reading(0, 1);
        x.reading(0, 2);
        x.reading(0, 3);
        check.due("12 -1", x.back(-1), OUTSIDE);
        check.due("12 more than there are", x.back(4), OUTSIDE);
        check.due("12 none", x.back(0), 3);
        check.due("12 two", x.back(2), 1);
        check.due("12 left", x.many(3), 1);
        check.due("12 number again", x.reading(0, 2), 1);
        check.due("12 all", x.back(2), 0);
        check.due("12 no city", new SeasonStreets().back(0), 0);
        SeasonStreets y = apart(",p012");
        y.reading(0, 2);
        y.reading(0, NONE);
        Desk.writeRoute(y, "012");
        check.due("12 both can't be", y.wishes(0, 0, 1, 2, 0, 3), 0);
        y.back(1);
        check.due("12 the last one is gone", y.wishes(0, 0, 1, 2, 0, 3), 1);
    }

    private static void seasons() {
        SeasonStreets x = apart(",w012");
        Desk.writeRoute(x, "0123");
        check.due("13 no readings", x.seasons(0, 1, 2, 0, 4), 15);
        x.reading(0, 2);
        check.due("13 street 0: 0 or 1", x.seasons(0, 1, 2, 0, 4), 1 | 2);
        check.due("13 street 1: 1 or 2", x.seasons(1, 1, 2, 0, 4), 2 | 4);
        check.due("13 street 2: 2 or 3", x.seasons(2, 1, 2, 0, 4), 4 | 8);
        check.due("13 street 3: any", x.seasons(3, 1, 2, 0, 4), 15);
        check.due("13 a shorter route", x.seasons(0, 1, 2, 0, 2), 0);
        x.back(1);
        x.reading(0, 3);
        check.due("13 a day later", x.seasons(2, 1, 2, 0, 4), 1 | 2);
        x.back(1);
        x.reading(0, NONE);
        check.due("13 not at all", x.seasons(0, 1, 2, 0, 3), 4 | 8);
        check.due("13 a day later still", x.seasons(0, 1, 2, 0, 4), 0);
        check.due("13 not at all, by too few days", x.seasons(0, 1, 2, 0, 2), 15);
        check.due("13 from a place on", x.seasons(3, 1, 2, 1, 3), 1 | 2);
    }

    private static void kinds() {
        SeasonStreets x = apart(",s000,p123");
        Desk.writeRoute(x, "000000");
        check.due("14 no readings", x.kinds(0, 1, 2, 0, 6), 7);
        x.reading(0, 5);
        check.due("14 a shrub", x.kinds(0, 1, 2, 0, 6), 2);
        x.back(1);
        x.reading(0, 2);
        check.due("14 a plant or a weed", x.kinds(0, 1, 2, 0, 6), 5);
        check.due("14 none, as it is a shrub", x.kinds(1, 1, 2, 0, 6), 0);
        x.back(1);
        Desk.writeRoute(x, "111");
        x.reading(0, 2);
        check.due("14 a weed", x.kinds(0, 1, 2, 0, 3), 4);
    }

    private static void wishes() {
        SeasonStreets x = apart(",p012,w230");
        Desk.writeRoute(x, "0123");
        check.due("15 no readings", x.wishes(1, 2, 1, 2, 0, 4), 15);
        x.reading(0, 3);
        check.due("15 first", x.wishes(0, 0, 1, 2, 0, 4), 0);
        check.due("15 second", x.wishes(0, 1, 1, 2, 0, 4), 0);
        check.due("15 third", x.wishes(0, 2, 1, 2, 0, 4), 8);
        x.back(1);
        x.reading(0, NONE);
        check.due("15 not at all, third", x.wishes(0, 2, 1, 2, 0, 4), 1 | 2);
        x.back(1);
        Desk.writeRoute(x, "231");
        x.reading(1, 2);
        check.due("15 a weed's first", x.wishes(1, 0, 1, 2, 0, 3), 2 | 4);
        check.due("15 a weed's second", x.wishes(1, 1, 1, 2, 0, 3), 4 | 8);
        check.due("15 a weed's third", x.wishes(1, 2, 1, 2, 0, 3), 1 | 2);
    }

    private static void readingsHoldTogether() {
        SeasonStreets x = apart(",p000,p111");
        Desk.writeRoute(x, "000111");
        x.reading(0, 2);
        x.reading(1, 5);
        check.due("13 by both", x.seasons(0, 1, 2, 0, 6), 1);
        check.due("13 by both", x.seasons(1, 1, 2, 0, 6), 1 << 1);
        check.due("14 by both", x.kinds(0, 1, 2, 0, 6), 1 | 4);
        check.due("15 by both", x.wishes(1, 0, 1, 2, 0, 6), 1 << 1);
        x.let(1, 2);
        check.due("13 only the one is another", x.seasons(0, 1, 2, 0, 6), 0);
        check.due("13 only the one is another", x.seasons(1, 1, 2, 0, 6), 1 << 1);
    }

    private static void askingChangesNothing() {
        SeasonStreets x = apart(",s012");
        Desk.writeRoute(x, "0123");
        x.reading(0, 2);
        x.seasons(2, 1, 2, 0, 4);
        x.kinds(0, 1, 2, 0, 4);
        x.wishes(0, 1, 1, 2, 0, 4);
        check.due("13 season stays", x.ofStreet(2, 0), 2);
        check.due("14 kind stays", x.ofPlant(0, 0), 1);
        check.due("15 wish stays", x.ofPlant(0, 2), 1);
        check.due("13 readings stay", x.many(3), 1);
    }

    private static long ask(SeasonStreets x, int promise, int which, int sheet, int lane, int i, int n) {
        if (promise == 13) {
            return x.seasons(which, sheet, lane, i, n);
        }
        return promise == 14 ? x.kinds(which, sheet, lane, i, n) : x.wishes(which, 0, sheet, lane, i, n);
    }

    private static void refusalsOfAsking() {
        for (int promise = 13; promise <= 15; promise++) {
            SeasonStreets x = apart(",p012,p012,p012");
            Desk.writeRoute(x, "0124");
            String of = promise + " ";
            check.due(of + "street or plant 4", ask(x, promise, 4, 1, 9, 0, 1), UNKNOWN);
            check.due(of + "street or plant -1", ask(x, promise, -1, 1, 2, 0, 1), UNKNOWN);
            check.due(of + "sheet 4", ask(x, promise, 0, 4, 9, 0, 1), UNKNOWN);
            check.due(of + "sheet -1", ask(x, promise, 0, -1, 2, 0, 99), UNKNOWN);
            check.due(of + "lane 3", ask(x, promise, 0, 1, 3, 0, 1), OUTSIDE);
            check.due(of + "lane -1", ask(x, promise, 0, 2, -1, 0, 1), OUTSIDE);
            check.due(of + "n 25", ask(x, promise, 0, 2, 2, 0, 25), OUTSIDE);
            check.due(of + "n -1", ask(x, promise, 0, 1, 2, 0, -1), OUTSIDE);
            check.due(of + "cast", ask(x, promise, 0, 1, 1, 9, 1), -12);
            check.due(of + "cast told", x.fault(), 2);
            check.due(of + "null", ask(x, promise, 0, 2, 1, 9, 1), -11);
            check.due(of + "null told", x.fault(), 1);
            check.due(of + "index", ask(x, promise, 0, 1, 2, 1, 4), -13);
            check.due(of + "index told", x.fault(), 3);
            check.due(of + "refused", ask(x, promise, 9, 1, 2, 0, 1), UNKNOWN);
            check.due(of + "refused is no fault", x.fault(), 0);
            ask(x, promise, 0, 2, 1, 9, 1);
            check.due(of + "no street 4", ask(x, promise, 0, 1, 2, 0, 4), UNKNOWN);
            check.due(of + "that is no fault", x.fault(), 0);
            check.due(of + "no days", ask(x, promise, 0, 1, 2, 4, 0), promise == 14 ? 7 : 15);
            check.due(of + "no days from beyond", ask(x, promise, 0, 1, 2, 5, 0), -13);
            check.due(of + "no city", ask(new SeasonStreets(), promise, 0, 1, 9, 0, 1), UNKNOWN);
        }
        SeasonStreets x = apart(",p012");
        check.due("15 stage 3", x.wishes(0, 3, 1, 2, 0, 1), OUTSIDE);
        check.due("15 stage -1", x.wishes(0, -1, 1, 2, 0, 1), OUTSIDE);
        check.due("15 sheet ahead of stage", x.wishes(0, 3, 4, 2, 0, 1), UNKNOWN);
        check.due("15 stage ahead of null", x.wishes(0, 2, 1, 2, 0, 1), -11);
    }

    private static void share(SeasonStreets x, int p, int from, int n, long upper, long lower) {
        String told = "16 plant " + p + " from " + from + " in " + n;
        check.due(told + ", upper", x.odds(p, from, n, 0), upper);
        check.due(told + ", lower", x.odds(p, from, n, 1), lower);
    }

    private static void odds() {
        SeasonStreets x = Desk.withCity("y201-01,p011,s000,w300");
        share(x, 0, 0, 1, 0, 1);
        share(x, 0, 0, 2, 0, 1);
        share(x, 0, 0, 3, 1, 4);
        share(x, 0, 0, 4, 1, 2);
        share(x, 0, 1, 3, 0, 1);
        share(x, 2, 0, 3, 1, 1);
        share(x, 2, 1, 3, 0, 1);
        share(x, 1, 0, 6, 1, 32);
        share(Desk.withCity("y201-01,p111"), 0, 0, 4, 1, 8);
        SeasonStreets apart = apart(",p000");
        share(apart, 0, 0, 2, 0, 1);
        share(apart, 0, 0, 6, 1, 1);
        SeasonStreets row = Desk.withCity(Desk.ROW);
        share(row, 0, 0, 3, 1, 5);
        share(row, 2, 2, 5, 26, 69);
        SeasonStreets most = Desk.withCity("y6000000-01-02-03-04-05-12-13-14-15,p000");
        for (int a = 0; a < 6; a++) {
            for (int b = a + 1; b < 6; b++) {
                most.corner(a, b, true);
            }
        }
        share(most, 0, 0, 6, 1, 1);
        most.let(5, 1);
        share(most, 0, 5, 3, 0, 1);
        share(most, 0, 5, 4, 125, 216);
    }

    private static void oddsRefusals() {
        SeasonStreets x = Desk.withCity("y201-01,p011");
        x.as(0, 2);
        check.due("16 plant 1", x.odds(1, 0, 1, 0), LOST);
        check.due("16 plant -1", x.odds(-1, 0, 1, 0), LOST);
        check.due("16 street 2", x.odds(0, 2, 1, 0), LOST);
        check.due("16 street -1", x.odds(0, -1, 1, 0), LOST);
        check.due("16 n 0", x.odds(0, 0, 0, 0), LOST);
        check.due("16 n 7", x.odds(0, 0, 7, 0), LOST);
        check.due("16 which 2", x.odds(0, 0, 1, 2), LOST);
        check.due("16 which -1", x.odds(0, 0, 1, -1), LOST);
        check.due("16 names no faults", x.fault(), 2);
        check.due("16 no city", new SeasonStreets().odds(0, 0, 1, 0), LOST);
    }
}
