/** Promises 22 to 25: telling, labels, kinds as casts, trace. */
final class PartsTest {
    private static final int UNKNOWN = -1, OUTSIDE = -2;
    private static final Check check = new Check();

    public static void main(String[] args) {
        tell();
        label();
        as();
        trace();
        check.end();
    }

    private static int traceBy(int trace, int... bodies) {
        int then = trace;
        for (int body : bodies) {
            then = 31 * then + body;
        }
        return then;
    }

    private static void tell() {
        SeasonStreets x = Desk.withCity("y201,p200,s311,w122");
        check.due("22 plant", x.tell(0), 2);
        check.due("22 plant's bodies", x.trace(), traceBy(0, 1));
        check.due("22 shrub", x.tell(1), 103);
        check.due("22 shrub's bodies", x.trace(), traceBy(0, 1, 2, 1));
        check.due("22 weed", x.tell(2), 102);
        check.due("22 weed's bodies", x.trace(), traceBy(0, 1, 2, 1, 3, 2, 1, 1));
        check.due("22 plant 3", x.tell(3), UNKNOWN);
        check.due("22 plant -1", x.tell(-1), UNKNOWN);
        check.due("22 refused leaves nothing", x.trace(), traceBy(0, 1, 2, 1, 3, 2, 1, 1));
        check.due("22 no city", new SeasonStreets().tell(0), UNKNOWN);
    }

    private static void label() {
        SeasonStreets x = Desk.withCity("y201,w200,s311,p122");
        check.due("23 weed", x.label(0), 30);
        check.due("23 weed's body", x.trace(), traceBy(0, 5));
        check.due("23 shrub", x.label(1), 1);
        check.due("23 lent body", x.trace(), traceBy(0, 5, 4));
        check.due("23 plant", x.label(2), 2);
        check.due("23 lent body", x.trace(), traceBy(0, 5, 4, 4));
        check.due("23 plant 3", x.label(3), UNKNOWN);
        check.due("23 plant -1", x.label(-1), UNKNOWN);
        check.due("23 refused leaves nothing", x.trace(), traceBy(0, 5, 4, 4));
        check.due("23 no city", new SeasonStreets().label(0), UNKNOWN);
    }

    private static void as() {
        SeasonStreets x = Desk.withCity("y201,p200,s311,w122");
        for (int p = 0; p < 3; p++) {
            for (int kind = 0; kind < 3; kind++) {
                boolean is = kind <= p;
                check.due("24 plant " + p + " as " + kind, x.as(p, kind), is ? 1 : -12);
                check.due("24 cast told", x.fault(), is ? 0 : 2);
            }
        }
        x.as(0, 2);
        check.due("24 kind 3", x.as(0, 3), OUTSIDE);
        check.due("24 refused is no fault", x.fault(), 0);
        check.due("24 kind -1", x.as(2, -1), OUTSIDE);
        x.as(0, 2);
        check.due("24 plant 3", x.as(3, 9), UNKNOWN);
        check.due("24 refused is no fault", x.fault(), 0);
        check.due("24 plant -1", x.as(-1, 0), UNKNOWN);
        check.due("24 stays what it is", x.ofPlant(2, 0), 2);
        check.due("24 leaves no trace", x.trace(), 0);
    }

    private static void trace() {
        SeasonStreets x = Desk.withCity("y201,p200,s311,w122");
        int due = 0;
        for (int turn = 0; turn < 20; turn++) {
            x.tell(2);
            x.label(2);
            due = traceBy(due, 3, 2, 1, 1, 5);
            check.due("25 wraps", x.trace(), due);
        }
        check.due("25 asking leaves nothing", x.trace(), due);
        Desk.tell(x, "y2");
        Desk.tell(x, Desk.ROW);
        check.due("25 a new city leaves it", x.trace(), due);
    }
}
