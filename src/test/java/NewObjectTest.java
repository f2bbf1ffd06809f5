/** Promise 1. */
public final class NewObjectTest {
    public static void main(String[] args) {
        Checks checks = new Checks("NewObjectTest");
        AlexanderMatrix x = new AlexanderMatrix();
        int[] want = {0, 0, 0, -1, 0, 0, 0};
        for (int what = 0; what < want.length; what++) {
            checks.due("many(" + what + ")", x.many(what), want[what]);
        }
        checks.alexander("a new object", x);
        checks.due("arc(1)", x.arc(1), -1);
        checks.due("arc(0)", x.arc(0), -1);
        checks.due("least(0)", x.least(0), -1);
        checks.due("entry(0, 0, 0)", x.entry(0, 0, 0), 0);
        checks.minor(x, -1, 0);
        checks.minor(x, 0, 0);
        checks.due("rank(1, 2)", x.rank(1, 2), 0);
        checks.due("change(0)", x.change(0), false);
        checks.due("smooth(0)", x.smooth(0), false);
        objectsAreApart(checks);
        checks.end();
    }

    private static void objectsAreApart(Checks checks) {
        AlexanderMatrix one = Diagrams.of(Diagrams.TREFOIL, 2);
        AlexanderMatrix other = new AlexanderMatrix();
        checks.due("many(0) of another object", other.many(0), 0);
        checks.due("many(1) of another object", other.many(1), 0);
        checks.due("many(0) of the first object", one.many(0), 3);
    }
}
