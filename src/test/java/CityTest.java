/** Promises 1 to 6 and 27: a new object, the city and its text. */
final class CityTest {
    private static final int UNKNOWN = -1, OUTSIDE = -2, STATE = -3;
    private static final Check check = new Check();

    public static void main(String[] args) {
        newObject();
        textsThatAreTaken();
        firstFaults();
        cityRefusals();
        cityMakesAllAnew();
        faultyTextChangesNothing();
        ofStreet();
        ofPlant();
        let();
        corner();
        many();
        check.end();
    }

    private static void newObject() {
        SeasonStreets x = new SeasonStreets();
        for (int what = 0; what <= 3; what++) {
            check.due("1 many " + what, x.many(what), 0);
        }
        check.due("1 no street", x.ofStreet(0, 0), UNKNOWN);
        check.due("1 no plant", x.ofPlant(0, 0), UNKNOWN);
        check.due("1 no city", x.best(), STATE);
        check.due("1 no trace", x.trace(), 0);
        check.due("1 no fault", x.fault(), 0);
        for (int k = 0; k < 4; k++) {
            check.due("1 sheet has nothing", x.lose(k), 0);
        }
    }

    private static void textsThatAreTaken() {
        SeasonStreets x = new SeasonStreets();
        check.due("2 least", Desk.tell(x, "y200,p000"), 1);
        check.due("2 least's streets", x.many(1), 2);
        check.due("2 no corners", x.many(2), 0);
        check.due("2 most", Desk.tell(x, "y6012301-01-12-23-34-45-50-02-13-24,p000,s111,w222"), 3);
        check.due("2 most's streets", x.many(1), 6);
        check.due("2 most's corners", x.many(2), 9);
        check.due("2 same corners", Desk.tell(x, "y3001-01-01-10,w321"), 1);
        check.due("2 same corners once", x.many(2), 1);
        for (int lane = 0; lane < 3; lane++) {
            Desk.writeText(x, 2, lane, 4, Desk.ROW);
            check.due("2 of a part", x.city(2, lane, 4, Desk.ROW.length()), 3);
            check.due("2 no fault", x.fault(), 0);
        }
        Desk.writeText(x, 2, 0, 0, "y200-01,p000,s111");
        check.due("2 cells beyond it don't matter", x.city(2, 0, 0, 12), 1);
        check.due("2 nor do they for a fault", x.city(2, 0, 0, 13), -113);
    }

    private static void firstFaults() {
        firstFault("", 0);
        firstFault("x", 0);
        firstFault(",p000", 0);
        firstFault("y,p000", 1);
        firstFault("y203-,p000", 5);
        firstFault("y203-0,p000", 6);
        firstFault("y203-11", 6);
        firstFault("Y200,p000", 0);
        firstFault("y", 1);
        firstFault("y1", 1);
        firstFault("y7", 1);
        firstFault("y2", 2);
        firstFault("y24", 2);
        firstFault("y20", 3);
        firstFault("y20,", 3);
        firstFault("y203", 4);
        firstFault("y2034", 4);
        firstFault("y203p", 4);
        firstFault("y203-", 5);
        firstFault("y203-2", 5);
        firstFault("y203-0", 6);
        firstFault("y203-00", 6);
        firstFault("y203-02", 6);
        firstFault("y203-01", 7);
        firstFault("y203-011", 7);
        firstFault("y203-01,", 8);
        firstFault("y203-01,q", 8);
        firstFault("y203-01,p", 9);
        firstFault("y203-01,p4", 9);
        firstFault("y203-01,p30", 11);
        firstFault("y203-01,p30/", 11);
        firstFault("y203-01,p301-01", 12);
        firstFault("y203-01,p301,", 13);
        firstFault("y203-01,p301,s000,w000,p000", 22);
        firstFault("y203-01,p301,s000,w000,", 22);
        firstFault("y203-01-01-01-01-01-01-01-01-01-01,p000", 31);
        firstFault("y203-01-01-01-01-01-01-01-01-01-", 31);
        firstFault("y203-01-01-01-01-01-01-01-01-01", 31);
        firstFault("y600000,p000", 7);
        firstFault("y6000000-56,p000", 10);
    }

    private static void firstFault(String text, int place) {
        check.due("2 first fault of " + text, Desk.tell(new SeasonStreets(), text), -100 - place);
    }

    private static void cityRefusals() {
        SeasonStreets x = new SeasonStreets();
        String text = "y200,p000";
        Desk.writeText(x, 0, 1, 0, text);
        check.due("2 sheet -1", x.city(-1, 9, 0, 9), UNKNOWN);
        check.due("2 sheet 4", x.city(4, 1, 0, 9), UNKNOWN);
        check.due("2 lane -1", x.city(0, -1, -1, -1), OUTSIDE);
        check.due("2 lane 3", x.city(0, 3, 0, 9), OUTSIDE);
        check.due("2 another lane", x.city(0, 0, -1, -1), -12);
        check.due("2 cast told", x.fault(), 2);
        check.due("2 nothing", x.city(1, 0, -1, -1), -11);
        check.due("2 null told", x.fault(), 1);
        check.due("2 below 0 cells", x.city(0, 1, -1, -1), -14);
        check.due("2 size told", x.fault(), 4);
        check.due("2 one cell too many", x.city(0, 1, 0, 10), -13);
        check.due("2 index told", x.fault(), 3);
        check.due("2 one too far", x.city(0, 1, 1, 9), -13);
        check.due("2 from below 0", x.city(0, 1, -1, 9), -13);
        check.due("2 far beyond", x.city(0, 1, Integer.MAX_VALUE, Integer.MAX_VALUE), -13);
        check.due("2 most cells", x.city(0, 1, 1, Integer.MAX_VALUE), -13);
        check.due("2 none, from the end", x.city(0, 1, 9, 0), -100);
        check.due("2 a text's fault is none", x.fault(), 0);
        check.due("2 none, from beyond", x.city(0, 1, 10, 0), -13);
        check.due("2 none, from below 0", x.city(0, 1, -1, 0), -13);
        check.due("2 nothing came of it", x.many(1), 0);
        check.due("2 taken", x.city(0, 1, 0, 9), 1);
    }

    private static void cityMakesAllAnew() {
        SeasonStreets x = Desk.withCity(Desk.ROW);
        x.corner(0, 4, true);
        x.let(0, 3);
        x.reading(0, 5);
        x.tell(0);
        Desk.writeText(x, 3, 2, 0, "y");
        check.due("2 again", Desk.tell(x, "y3102,s123"), 1);
        check.due("2 streets anew", x.many(1), 3);
        check.due("2 corners anew", x.many(2), 0);
        check.due("2 readings anew", x.many(3), 0);
        check.due("2 season anew", x.ofStreet(0, 0), 1);
        check.due("2 no corner left", x.ofStreet(0, 1), 0);
        check.due("2 plant anew", x.ofPlant(0, 0), 1);
        check.due("2 plants of before are gone", x.ofPlant(1, 0), UNKNOWN);
        check.due("2 trace stays", x.trace(), 1);
        check.due("2 sheets stay", x.cell(3, 0, 2), 'y');
        Desk.tell(x, Desk.ROW);
        check.due("2 third city has its own corners", x.many(2), 4);
        check.due("2 first street, too", x.ofStreet(0, 1), 2);
        check.due("2 third city has its own season", x.ofStreet(0, 0), 0);
    }

    private static void faultyTextChangesNothing() {
        SeasonStreets x = Desk.withCity(Desk.ROW);
        x.reading(0, 5);
        check.due("2 late fault", Desk.tell(x, "y63333333-05,w333,w333,w33"), -108);
        check.due("2 late fault", Desk.tell(x, "y6333333-05,w333,w333,w33"), -125);
        check.due("2 streets stay", x.many(1), 5);
        check.due("2 season stays", x.ofStreet(0, 0), 0);
        check.due("2 corners stay", x.many(2), 4);
        check.due("2 plants stay", x.ofPlant(0, 0), 0);
        check.due("2 wishes stay", x.ofPlant(0, 1), 0);
        check.due("2 readings stay", x.many(3), 1);
    }

    private static void ofStreet() {
        SeasonStreets x = Desk.withCity(Desk.ROW);
        int[] seasons = {0, 1, 2, 3, 0};
        int[] corners = {2, 5, 10, 20, 8};
        for (int s = 0; s < 5; s++) {
            check.due("3 season", x.ofStreet(s, 0), seasons[s]);
            check.due("3 corners", x.ofStreet(s, 1), corners[s]);
            check.due("3 what", x.ofStreet(s, 2), OUTSIDE);
            check.due("3 what", x.ofStreet(s, -1), OUTSIDE);
        }
        check.due("3 street 5", x.ofStreet(5, 2), UNKNOWN);
        check.due("3 street -1", x.ofStreet(-1, 0), UNKNOWN);
    }

    private static void ofPlant() {
        SeasonStreets x = Desk.withCity(Desk.ROW);
        int[][] told = {{0, 0, 1, 2}, {1, 3, 3, 0}, {2, 2, 0, 2}};
        for (int p = 0; p < 3; p++) {
            for (int what = 0; what < 4; what++) {
                check.due("4 plant " + p + " what " + what, x.ofPlant(p, what), told[p][what]);
            }
            check.due("4 what 4", x.ofPlant(p, 4), OUTSIDE);
            check.due("4 what -1", x.ofPlant(p, -1), OUTSIDE);
        }
        check.due("4 plant 3", x.ofPlant(3, 4), UNKNOWN);
        check.due("4 plant -1", x.ofPlant(-1, 0), UNKNOWN);
    }

    private static void let() {
        SeasonStreets x = Desk.withCity(Desk.ROW);
        check.due("5 was", x.let(1, 3), 1);
        check.due("5 is", x.ofStreet(1, 0), 3);
        check.due("5 was then", x.let(1, 0), 3);
        check.due("5 least", x.ofStreet(1, 0), 0);
        check.due("5 another one stays", x.ofStreet(2, 0), 2);
        check.due("5 season 4", x.let(1, 4), OUTSIDE);
        check.due("5 season -1", x.let(1, -1), OUTSIDE);
        check.due("5 street 5", x.let(5, 4), UNKNOWN);
        check.due("5 street -1", x.let(-1, 0), UNKNOWN);
        check.due("5 stays", x.ofStreet(1, 0), 0);
    }

    private static void corner() {
        SeasonStreets x = Desk.withCity(Desk.ROW);
        check.due("6 new", x.corner(4, 0, true), 1);
        check.due("6 both ways", x.ofStreet(0, 1), 2 | 16);
        check.due("6 both ways", x.ofStreet(4, 1), 8 | 1);
        check.due("6 it was so", x.corner(0, 4, true), 0);
        check.due("6 away", x.corner(0, 1, false), 1);
        check.due("6 away both ways", x.ofStreet(1, 1), 4);
        check.due("6 it was away", x.corner(1, 0, false), 0);
        check.due("6 how many", x.many(2), 4);
        check.due("6 with itself", x.corner(2, 2, true), UNKNOWN);
        check.due("6 none with itself", x.corner(2, 2, false), UNKNOWN);
        check.due("6 street 5", x.corner(0, 5, true), UNKNOWN);
        check.due("6 street -1", x.corner(-1, 0, false), UNKNOWN);
    }

    private static void many() {
        SeasonStreets x = Desk.withCity(Desk.ROW);
        x.reading(0, 0);
        x.reading(1, -9);
        check.due("27 plants", x.many(0), 3);
        check.due("27 streets", x.many(1), 5);
        check.due("27 corners", x.many(2), 4);
        check.due("27 readings", x.many(3), 2);
        check.due("27 what 4", x.many(4), OUTSIDE);
        check.due("27 what -1", x.many(-1), OUTSIDE);
        for (int a = 0; a < 5; a++) {
            for (int b = a + 1; b < 5; b++) {
                x.corner(a, b, true);
            }
        }
        check.due("27 all corners", x.many(2), 10);
        check.due("27 what 4 without a city", new SeasonStreets().many(4), OUTSIDE);
    }
}
