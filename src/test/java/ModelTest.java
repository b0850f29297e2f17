import java.util.Random;

/** Promises 1 to 27: runs of calls by chance (always the same), answered by the class and the model alike. */
final class ModelTest {
    private static final int RUNS = 1500;
    private static final int CALLS = 512;
    private static final Check check = new Check();

    private final Random chance;
    private final int run;
    private final SeasonStreets x = new SeasonStreets();
    private final Model model = new Model();
    private int calls = 0;

    private ModelTest(int run) {
        this.run = run;
        this.chance = new Random(run);
    }

    public static void main(String[] args) {
        for (int run = 0; run < RUNS; run++) {
            new ModelTest(run).go();
        }
        check.end();
    }

    private void go() {
        while (calls < CALLS) {
            int kind = chance.nextInt(40);
            if (kind == 0) {
                tellCity();
            } else if (kind < 6) {
                askRoute();
            } else {
                callAny(kind);
            }
        }
    }

    private void due(String call, long got, long want) {
        calls++;
        check.due("run " + run + " call " + calls + ": " + call, got, want);
    }

    private int upTo(int most) {
        return chance.nextInt(most + 1);
    }

    /** A number of 0 .. most as a rule, seldom one out of bounds. */
    private int about(int most) {
        int kind = chance.nextInt(60);
        if (kind == 0) {
            return -1 - upTo(3);
        }
        if (kind == 1) {
            return most + 1 + upTo(2);
        }
        if (kind == 2) {
            return chance.nextBoolean() ? Integer.MAX_VALUE - upTo(1) : Integer.MIN_VALUE + upTo(1);
        }
        return upTo(most);
    }

    private String text() {
        StringBuilder text = new StringBuilder("y");
        int streets = 2 + upTo(4);
        text.append(streets);
        for (int s = 0; s < streets; s++) {
            text.append(upTo(3));
        }
        for (int c = upTo(9); c > 0; c--) {
            int a = upTo(streets - 1);
            text.append('-').append(a).append((a + 1 + upTo(streets - 2)) % streets);
        }
        for (int p = upTo(2); p >= 0; p--) {
            text.append(',').append("psw".charAt(upTo(2))).append(upTo(3)).append(upTo(3)).append(upTo(3));
        }
        return chance.nextInt(3) == 0 ? spoilt(text) : text.toString();
    }

    private String spoilt(StringBuilder text) {
        int at = upTo(text.length() - 1);
        int kind = upTo(3);
        if (kind == 0) {
            text.setLength(at);
        } else if (kind == 1) {
            text.setCharAt(at, "yps w-,0123456789".charAt(upTo(16)));
        } else if (kind == 2) {
            text.deleteCharAt(at);
        } else {
            text.insert(at, "-01-10,p012".substring(upTo(5)));
        }
        return text.toString();
    }

    private void tellCity() {
        String text = text();
        int sheet = upTo(3);
        int lane = upTo(2);
        int ahead = upTo(2);
        sheet(sheet, lane, ahead + text.length());
        for (int k = 0; k < text.length(); k++) {
            put(sheet, ahead + k, text.charAt(k));
        }
        due("city", x.city(sheet, lane, ahead, text.length()), model.city(sheet, lane, ahead, text.length()));
        for (int what = 0; what < 4; what++) {
            due("many", x.many(what), model.many(what));
        }
    }

    /** A route that mostly goes on by corners, asked about in several ways. */
    private void askRoute() {
        int sheet = upTo(3);
        int lane = upTo(2);
        int n = upTo(24);
        int most = Math.max(model.streets, 1) - 1;
        sheet(sheet, lane, n);
        int street = upTo(most);
        for (int day = 0; day < n; day++) {
            put(sheet, day, street);
            int to = upTo(most);
            boolean goes = chance.nextInt(3) > 0 && to <= most && model.streets > 0 && model.met[street][to];
            street = goes || chance.nextInt(80) == 0 ? to : street;
        }
        for (int what : new int[] {0, 1, 2, 10, 11, 12, 20, 21, 22}) {
            due("route " + what, x.route(sheet, lane, 0, n, what), model.route(sheet, lane, 0, n, what));
        }
        readWhatIsSo(sheet, lane, n);
        askReadings(sheet, lane, 0, n);
    }

    private void readWhatIsSo(int sheet, int lane, int n) {
        back(model.readings);
        for (int p = 0; p < model.plants; p++) {
            int day = model.route(sheet, lane, 0, n, 10 + p);
            reading(p, day >= -9 ? day : about(23));
        }
    }

    private void askReadings(int sheet, int lane, int i, int n) {
        int s = about(5);
        int p = about(2);
        int t = about(2);
        due("seasons", x.seasons(s, sheet, lane, i, n), model.seasons(s, sheet, lane, i, n));
        due("fault", x.fault(), model.fault);
        due("kinds", x.kinds(p, sheet, lane, i, n), model.kinds(p, sheet, lane, i, n));
        due("wishes", x.wishes(p, t, sheet, lane, i, n), model.wishes(p, t, sheet, lane, i, n));
        due("fault", x.fault(), model.fault);
    }

    private void callAny(int kind) {
        switch (kind) {
            case 6: case 7: sheet(about(3), about(2), about(60)); break;
            case 8: lose(); break;
            case 9: case 10: put(about(3), about(30), chance.nextInt()); break;
            case 11: case 12: case 13: cell(); break;
            case 14: case 15: copy(); break;
            case 16: case 17: ofStreet(); break;
            case 18: case 19: ofPlant(); break;
            case 20: let(); break;
            case 21: case 22: corner(); break;
            case 23: askRouteAnyhow(); break;
            case 24: case 25: quickest(); break;
            case 26: case 27: mild(); break;
            case 28: due("best", x.best(), model.best()); break;
            case 29: reading(about(2), chance.nextInt(4) == 0 ? -9 : about(23)); break;
            case 30: back(about(3)); break;
            case 31: askReadings(about(3), about(2), about(3), about(24)); break;
            case 32: case 33: odds(); break;
            case 34: tell(); break;
            case 35: label(); break;
            case 36: as(); break;
            case 37: cityAnyhow(); break;
            case 38: many(); break;
            default: due("fault", x.fault(), model.fault); break;
        }
    }

    private void sheet(int k, int lane, int n) {
        due("sheet", x.sheet(k, lane, n), model.sheet(k, lane, n));
    }

    private void lose() {
        int k = about(3);
        due("lose", x.lose(k), model.lose(k));
    }

    private void put(int k, int i, int v) {
        due("put", x.put(k, i, v), model.put(k, i, v));
    }

    private void cell() {
        int k = about(3);
        int i = about(40);
        int lane = about(2);
        due("cell", x.cell(k, i, lane), model.cell(k, i, lane));
        due("fault", x.fault(), model.fault);
    }

    private void copy() {
        int k = about(3);
        int i = about(12);
        int other = about(3);
        int j = about(12);
        int n = about(20);
        due("copy", x.copy(k, i, other, j, n), model.copy(k, i, other, j, n));
        due("fault", x.fault(), model.fault);
    }

    private void ofStreet() {
        int s = about(5);
        int what = about(1);
        due("ofStreet", x.ofStreet(s, what), model.ofStreet(s, what));
    }

    private void ofPlant() {
        int p = about(2);
        int what = about(3);
        due("ofPlant", x.ofPlant(p, what), model.ofPlant(p, what));
    }

    private void let() {
        int s = about(5);
        int v = about(3);
        due("let", x.let(s, v), model.let(s, v));
    }

    private void corner() {
        int a = about(5);
        int b = about(5);
        boolean is = chance.nextInt(3) > 0;
        due("corner", x.corner(a, b, is), model.corner(a, b, is));
    }

    private void askRouteAnyhow() {
        int sheet = about(3);
        int lane = about(2);
        int i = about(10);
        int n = about(24);
        int what = about(22);
        due("route", x.route(sheet, lane, i, n, what), model.route(sheet, lane, i, n, what));
        due("fault", x.fault(), model.fault);
    }

    private void cityAnyhow() {
        int sheet = about(3);
        int lane = about(2);
        int i = about(10);
        int n = about(24);
        due("city", x.city(sheet, lane, i, n), model.city(sheet, lane, i, n));
        due("fault", x.fault(), model.fault);
    }

    private void quickest() {
        int set = about((1 << model.plants) - 1);
        int from = about(Math.max(model.streets, 1) - 1);
        due("quickest", x.quickest(set, from, -1), model.quickest(set, from, -1));
        int k = about(23);
        due("quickest", x.quickest(set, from, k), model.quickest(set, from, k));
        for (int day = 0; day < 12; day++) {
            due("quickest", x.quickest(set, from, day), model.quickest(set, from, day));
        }
    }

    private void mild() {
        int a = about(5);
        int b = about(5);
        due("mild", x.mild(a, b), model.mild(a, b));
    }

    private void reading(int p, int day) {
        due("reading", x.reading(p, day), model.reading(p, day));
    }

    private void back(int k) {
        due("back", x.back(k), model.back(k));
    }

    private void odds() {
        int p = about(2);
        int from = about(5);
        int n = 1 + about(5);
        int which = about(1);
        due("odds", x.odds(p, from, n, which), model.odds(p, from, n, which));
        due("odds", x.odds(p, from, n, 1 - which), model.odds(p, from, n, 1 - which));
    }

    private void tell() {
        int p = about(2);
        due("tell", x.tell(p), model.tell(p));
        due("trace", x.trace(), model.trace);
    }

    private void label() {
        int p = about(2);
        due("label", x.label(p), model.label(p));
        due("trace", x.trace(), model.trace);
    }

    private void as() {
        int p = about(2);
        int kind = about(2);
        due("as", x.as(p, kind), model.as(p, kind));
        due("fault", x.fault(), model.fault);
    }

    private void many() {
        int what = about(3);
        due("many", x.many(what), model.many(what));
    }
}
