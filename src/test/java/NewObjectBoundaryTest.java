/** Promise 1 at its edges: everything is asked of an object that nothing has been done with. */
public final class NewObjectBoundaryTest {
    private static final int[] NUMBERS = {Integer.MIN_VALUE, -2, -1, 0, 1, 12, 9999, 10000, Integer.MAX_VALUE};

    public static void main(String[] args) {
        Checks checks = new Checks("NewObjectBoundaryTest");
        checks.sentence("No crossings put in");
        checks.due("many(6)", new AlexanderMatrix().many(6), 0);
        checks.due("the first crossing", new AlexanderMatrix().crossing(1, 1, 1, 2, 2), 1);
        AlexanderMatrix x = new AlexanderMatrix();
        checks.due("check(3) of nothing", x.check(3), 0);
        checks.due("many(0)", x.many(0), 0);
        checks.due("many(1)", x.many(1), 3);

        checks.sentence("a diagram without crossings and circles");
        checks.due("many(0)", new AlexanderMatrix().many(0), 0);
        checks.due("many(1)", new AlexanderMatrix().many(1), 0);
        checks.due("many(2)", new AlexanderMatrix().many(2), 0);
        checks.due("many(3)", new AlexanderMatrix().many(3), -1);
        checks.due("many(4)", new AlexanderMatrix().many(4), 0);
        checks.due("many(5)", new AlexanderMatrix().many(5), 0);
        checks.due("rank(1, 2)", new AlexanderMatrix().rank(1, 2), 0);
        checks.due("rank(1, 97)", new AlexanderMatrix().rank(1, 97), 0);
        for (int n : NUMBERS) {
            emptyAt(checks, n);
        }
        checks.end();
    }

    private static void emptyAt(Checks checks, int n) {
        AlexanderMatrix x = new AlexanderMatrix();
        checks.due("arc(" + n + ")", x.arc(n), -1);
        checks.due("least(" + n + ")", x.least(n), -1);
        checks.due("alexander(" + n + ")", x.alexander(n), 0);
        checks.due("change(" + n + ")", x.change(n), false);
        checks.due("smooth(" + n + ")", x.smooth(n), false);
        for (int m : NUMBERS) {
            checks.due("entry(" + n + ", " + m + ", 0)", x.entry(n, m, 0), 0);
            checks.due("minor(" + n + ", " + m + ", 0)", x.minor(n, m, 0), 0);
        }
        checks.due("many(0) after all that", x.many(0), 0);
        checks.due("many(1) after all that", x.many(1), 0);
        checks.due("many(6) after all that", x.many(6), 0);
    }
}
