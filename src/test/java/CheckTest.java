/** Promise 3. */
public final class CheckTest {
    private final Checks checks = new Checks("CheckTest");

    public static void main(String[] args) {
        CheckTest test = new CheckTest();
        test.rules();
        test.theFirstBrokenRule();
        test.takesTheDiagram();
        test.leavesTheDiagram();
        test.circles();
        test.checks.end();
    }

    private void rule(int want, int[][] crossings) {
        AlexanderMatrix x = new AlexanderMatrix();
        checks.due("check(0) of " + java.util.Arrays.deepToString(crossings), Diagrams.load(x, crossings, 0), want);
        checks.due("many(0)", x.many(0), want == 0 ? crossings.length : 0);
        checks.due("many(6)", x.many(6), 0);
    }

    private void rules() {
        rule(0, new int[0][]);
        rule(0, Diagrams.KINK);
        rule(0, Diagrams.NEGATIVE_KINK);
        rule(0, Diagrams.TREFOIL);
        rule(0, Diagrams.TWO_APART);
        rule(0, Diagrams.braid(3, Diagrams.power(6, 1, -2)));
        rule(0, new int[][] {{1, 1, 1, 2, 2}, {-1, 3, 4, 4, 3}});
        rule(1, new int[][] {{1, 1, 2, 3, 4}});
        rule(1, new int[][] {{1, 1, 1, 1, 1}});
        rule(1, new int[][] {{1, 1, 1, 1, 2}});
        rule(1, new int[][] {{1, 1, 1, 2, 2}, {1, 1, 1, 2, 2}});
        rule(2, new int[][] {{-1, 1, 1, 2, 2}});
        rule(2, new int[][] {{1, 4, 1, 3, 2}, {1, 2, 3, 1, 4}});
        rule(2, new int[][] {{1, 1, 2, 2, 1}});
        rule(3, Diagrams.NO_SPHERE);
        rule(3, new int[][] {{1, 1, 3, 2, 4}, {1, 2, 4, 1, 3}});
        rule(3, new int[][] {{1, 1, 1, 2, 2}, {1, 5, 6, 5, 6}});
        rule(3, new int[][] {{1, 5, 6, 5, 6}, {1, 1, 1, 2, 2}, {-1, 3, 4, 4, 3}});
    }

    private void theFirstBrokenRule() {
        rule(1, new int[][] {{1, 5, 6, 5, 6}, {-1, 1, 1, 2, 2}, {1, 7, 7, 8, 9}});
        rule(2, new int[][] {{1, 5, 6, 5, 6}, {-1, 1, 1, 2, 2}, {1, 7, 7, 8, 8}});
    }

    private void takesTheDiagram() {
        AlexanderMatrix x = Diagrams.of(Diagrams.TREFOIL, 4);
        checks.due("many(0)", x.many(0), 3);
        checks.due("many(1)", x.many(1), 4);
        checks.due("check(0) of a kink", Diagrams.load(x, Diagrams.KINK, 0), 0);
        checks.due("many(0)", x.many(0), 1);
        checks.due("many(1)", x.many(1), 0);
        checks.due("arc(5)", x.arc(5), -1);
        checks.due("check(0) of nothing", x.check(0), 0);
        checks.due("many(0)", x.many(0), 0);
        checks.due("many(2)", x.many(2), 0);
    }

    private void leavesTheDiagram() {
        AlexanderMatrix x = Diagrams.of(Diagrams.TREFOIL, 0);
        checks.due("check(7) of no sphere", Diagrams.load(x, Diagrams.NO_SPHERE, 7), 3);
        checks.due("many(1)", x.many(1), 0);
        checks.due("many(6)", x.many(6), 0);
        checks.alexander("the trefoil that stays", x, 1, -1, 1);
        checks.due("arc(6)", x.arc(6), 0);
    }

    private void circles() {
        AlexanderMatrix x = Diagrams.of(Diagrams.TREFOIL, 0);
        Diagrams.putIn(x, Diagrams.KINK);
        for (int bad : new int[] {-1, 10, Integer.MIN_VALUE, Integer.MAX_VALUE}) {
            checks.due("check(" + bad + ")", x.check(bad), -1);
            checks.due("many(6): nothing was done", x.many(6), 1);
            checks.due("many(0): nothing was done", x.many(0), 3);
        }
        checks.due("check(9)", x.check(9), 0);
        checks.due("many(0)", x.many(0), 1);
        checks.due("many(1)", x.many(1), 9);
        checks.due("many(2)", x.many(2), 10);
    }
}
