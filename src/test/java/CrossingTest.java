/** Promise 2. */
public final class CrossingTest {
    public static void main(String[] args) {
        Checks checks = new Checks("CrossingTest");
        counts(checks);
        refusesSigns(checks);
        refusesLabels(checks);
        leavesTheDiagram(checks);
        checks.end();
    }

    private static void counts(Checks checks) {
        AlexanderMatrix x = new AlexanderMatrix();
        for (int n = 1; n <= 12; n++) {
            checks.due("crossing number " + n, x.crossing(n % 2 == 0 ? 1 : -1, 1, 9999, 1, n), n);
            checks.due("many(6)", x.many(6), n);
        }
        checks.due("the 13th crossing", x.crossing(1, 1, 2, 3, 4), -1);
        checks.due("many(6)", x.many(6), 12);
        checks.due("check(0)", x.check(0), 1);
        checks.due("crossing after check", x.crossing(1, 1, 2, 3, 4), 1);
    }

    private static void refusesSigns(Checks checks) {
        AlexanderMatrix x = new AlexanderMatrix();
        for (int sign : new int[] {0, 2, -2, Integer.MIN_VALUE, Integer.MAX_VALUE}) {
            checks.due("crossing(" + sign + ", ..)", x.crossing(sign, 1, 1, 2, 2), -1);
        }
        checks.due("many(6)", x.many(6), 0);
    }

    private static void refusesLabels(Checks checks) {
        AlexanderMatrix x = new AlexanderMatrix();
        for (int bad : new int[] {0, -1, 10000, Integer.MIN_VALUE, Integer.MAX_VALUE}) {
            for (int q = 0; q < 4; q++) {
                int[] l = {1, 1, 2, 2};
                l[q] = bad;
                checks.due("label " + bad + " at " + q, x.crossing(1, l[0], l[1], l[2], l[3]), -1);
            }
        }
        checks.due("many(6)", x.many(6), 0);
        checks.due("crossing(1, 1, 1, 9999, 9999)", x.crossing(1, 1, 1, 9999, 9999), 1);
        checks.due("a bad one", x.crossing(1, 0, 1, 1, 1), -1);
        checks.due("many(6)", x.many(6), 1);
        checks.due("check(0)", x.check(0), 0);
        checks.due("arc(9999)", x.arc(9999), 0);
    }

    private static void leavesTheDiagram(Checks checks) {
        AlexanderMatrix x = Diagrams.of(Diagrams.TREFOIL, 1);
        x.crossing(1, 7, 7, 8, 8);
        checks.due("many(0)", x.many(0), 3);
        checks.due("many(1)", x.many(1), 1);
        checks.due("arc(7)", x.arc(7), -1);
    }
}
