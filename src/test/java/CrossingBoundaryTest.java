/** Promise 2 at its edges. */
public final class CrossingBoundaryTest {
    private static final Checks CHECKS = new Checks("CrossingBoundaryTest");

    public static void main(String[] args) {
        CHECKS.sentence("when the sign is none");
        signs();
        CHECKS.sentence("a label is not 1 .. 9999");
        labels();
        CHECKS.sentence("or there are 12");
        twelve();
        CHECKS.sentence("how many there are");
        count();
        CHECKS.sentence("-1, doing nothing");
        doingNothing();
        CHECKS.end();
    }

    private static void signs() {
        for (int sign : new int[] {-1, 1}) {
            AlexanderMatrix x = new AlexanderMatrix();
            CHECKS.due("crossing(" + sign + ", ..)", x.crossing(sign, 1, 1, 2, 2), 1);
            CHECKS.due("many(6)", x.many(6), 1);
        }
        for (int sign : new int[] {-2, 0, 2, 3, -3, 255, 257, 65537, Integer.MIN_VALUE, Integer.MAX_VALUE}) {
            AlexanderMatrix x = new AlexanderMatrix();
            CHECKS.due("crossing(" + sign + ", ..)", x.crossing(sign, 1, 1, 2, 2), -1);
            CHECKS.due("many(6)", x.many(6), 0);
        }
    }

    private static int withLabel(AlexanderMatrix x, int place, int label) {
        return x.crossing(1, place == 0 ? label : 5, place == 1 ? label : 6, place == 2 ? label : 7,
                place == 3 ? label : 8);
    }

    private static void labels() {
        for (int place = 0; place < 4; place++) {
            for (int good : new int[] {1, 2, 9998, 9999}) {
                AlexanderMatrix x = new AlexanderMatrix();
                CHECKS.due("label " + good + " at " + place, withLabel(x, place, good), 1);
                CHECKS.due("many(6)", x.many(6), 1);
            }
            for (int bad : new int[] {0, -1, 10000, 10001, 65537, Integer.MIN_VALUE, Integer.MAX_VALUE}) {
                AlexanderMatrix x = new AlexanderMatrix();
                CHECKS.due("label " + bad + " at " + place, withLabel(x, place, bad), -1);
                CHECKS.due("many(6)", x.many(6), 0);
            }
        }
        AlexanderMatrix x = Diagrams.of(new int[][] {{1, 1, 1, 9999, 9999}}, 0);
        CHECKS.due("arc(1)", x.arc(1), 0);
        CHECKS.due("arc(9999)", x.arc(9999), 0);
        CHECKS.due("least(0)", x.least(0), 1);
    }

    private static void twelve() {
        int[][] link = Diagrams.braid(2, Diagrams.power(12, 1));
        AlexanderMatrix x = new AlexanderMatrix();
        for (int k = 0; k < 11; k++) {
            x.crossing(link[k][0], link[k][1], link[k][2], link[k][3], link[k][4]);
        }
        CHECKS.due("the 12th", x.crossing(link[11][0], link[11][1], link[11][2], link[11][3], link[11][4]), 12);
        CHECKS.due("the 13th", x.crossing(1, 90, 90, 91, 91), -1);
        CHECKS.due("the 13th again", x.crossing(-1, 1, 2, 3, 4), -1);
        CHECKS.due("many(6)", x.many(6), 12);
        CHECKS.due("check(0)", x.check(0), 0);
        CHECKS.due("many(0)", x.many(0), 12);
        CHECKS.due("arc(90)", x.arc(90), -1);
        CHECKS.due("many(3)", x.many(3), 11);
        Diagrams.putIn(x, link);
        CHECKS.due("12 more are put in beside the diagram", x.many(6), 12);
        CHECKS.due("check(10)", x.check(10), -1);
        CHECKS.due("the 13th after a refused check", x.crossing(1, 90, 90, 91, 91), -1);
    }

    private static void count() {
        AlexanderMatrix x = Diagrams.of(Diagrams.TREFOIL, 0);
        for (int n = 1; n <= 12; n++) {
            CHECKS.due("crossing number " + n, x.crossing(1, n, n, n, n), n);
            CHECKS.due("one of sign 0", x.crossing(0, n, n, n, n), -1);
            CHECKS.due("many(6)", x.many(6), n);
            CHECKS.due("many(0)", x.many(0), 3);
        }
        CHECKS.due("check(0)", x.check(0), 1);
        CHECKS.due("the first one after check", x.crossing(1, 1, 1, 2, 2), 1);
    }

    private static void doingNothing() {
        for (Twins twins : Twins.inSmallStates(CHECKS)) {
            twins.changesNothing("crossing(0, 1, 1, 2, 2)", x -> x.crossing(0, 1, 1, 2, 2), -1);
            twins.changesNothing("crossing(2, 1, 1, 2, 2)", x -> x.crossing(2, 1, 1, 2, 2), -1);
            twins.changesNothing("crossing(-2, 1, 1, 2, 2)", x -> x.crossing(-2, 1, 1, 2, 2), -1);
            for (int place = 0; place < 4; place++) {
                int q = place;
                twins.changesNothing("label 0 at " + q, x -> withLabel(x, q, 0), -1);
                twins.changesNothing("label 10000 at " + q, x -> withLabel(x, q, 10000), -1);
            }
        }
        Twins full = Twins.inFullStates(CHECKS).get(0);
        full.changesNothing("crossing(1, 90, 90, 91, 91)", x -> x.crossing(1, 90, 90, 91, 91), -1);
        full.changesNothing("crossing(0, 0, 1, 2, 2)", x -> x.crossing(0, 0, 1, 2, 2), -1);
    }
}
