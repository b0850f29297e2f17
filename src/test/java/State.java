/** All that can be seen of an object, as a text; looking uses the object up, so it is not asked further. */
final class State {
    private State() {
    }

    static String of(SeasonStreets x) {
        StringBuilder seen = new StringBuilder();
        city(x, seen);
        sheets(x, seen);
        readings(x, seen);
        return seen.toString();
    }

    private static void city(SeasonStreets x, StringBuilder seen) {
        seen.append("trace ").append(x.trace()).append(", many");
        for (int what = 0; what < 4; what++) {
            seen.append(' ').append(x.many(what));
        }
        for (int s = 0; s < x.many(1); s++) {
            seen.append(", street ").append(x.ofStreet(s, 0)).append(' ').append(x.ofStreet(s, 1));
        }
        for (int p = 0; p < x.many(0); p++) {
            seen.append(", plant");
            for (int what = 0; what < 4; what++) {
                seen.append(' ').append(x.ofPlant(p, what));
            }
        }
    }

    private static void sheets(SeasonStreets x, StringBuilder seen) {
        for (int k = 0; k < 4; k++) {
            for (int lane = 0; lane < 3; lane++) {
                x.cell(k, 0, lane);
                if (x.fault() == 0 || x.fault() == 3) {
                    cells(x, k, lane, seen);
                }
            }
        }
    }

    private static void cells(SeasonStreets x, int k, int lane, StringBuilder seen) {
        seen.append(", sheet ").append(k).append(" lane ").append(lane).append(':');
        for (int i = 0; i < 60; i++) {
            long cell = x.cell(k, i, lane);
            if (cell == Long.MIN_VALUE) {
                return;
            }
            seen.append(' ').append(cell);
        }
    }

    /** What the readings leave open by a route, with all of them and then with one less by turns. */
    private static void readings(SeasonStreets x, StringBuilder seen) {
        Desk.writeRoute(x, "012");
        for (int left = x.many(3); left > 0; left = x.back(1)) {
            seen.append(", by ").append(left);
            for (int p = 0; p < x.many(0); p++) {
                seen.append(' ').append(x.kinds(p, 1, 2, 0, 3)).append(' ').append(x.wishes(p, 2, 1, 2, 0, 3));
            }
        }
    }
}
