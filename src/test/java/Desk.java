/** Writes texts and routes to the sheets of an object, as the tests need them. */
final class Desk {
    /** Five streets in a row, and a plant of each kind. */
    static final String ROW = "y501230-01-12-23-34,p012,s330,w202";

    private Desk() {
    }

    static SeasonStreets withCity(String text) {
        SeasonStreets x = new SeasonStreets();
        tell(x, text);
        return x;
    }

    /** Tells a text by sheet 0. */
    static int tell(SeasonStreets x, String text) {
        writeText(x, 0, 0, 0, text);
        return x.city(0, 0, 0, text.length());
    }

    static void writeText(SeasonStreets x, int sheet, int lane, int ahead, String text) {
        x.sheet(sheet, lane, ahead + text.length());
        for (int k = 0; k < text.length(); k++) {
            x.put(sheet, ahead + k, text.charAt(k));
        }
    }

    /** Writes a route to sheet 1 as ints, a digit a street. */
    static void writeRoute(SeasonStreets x, String streets) {
        x.sheet(1, 2, streets.length());
        for (int k = 0; k < streets.length(); k++) {
            x.put(1, k, streets.charAt(k) - '0');
        }
    }

    static int route(SeasonStreets x, String streets, int what) {
        writeRoute(x, streets);
        return x.route(1, 2, 0, streets.length(), what);
    }
}
