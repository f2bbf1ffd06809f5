/** Promises 5 and 6: arc and least. */
public final class ArcTest {
    private static final Checks CHECKS = new Checks("ArcTest");

    public static void main(String[] args) {
        trefoil();
        labelsInAnotherOrder();
        closedArc();
        circlesAreBehind();
        CHECKS.end();
    }

    private static void arcs(AlexanderMatrix x, int[]... labels) {
        for (int number = 0; number < labels.length; number++) {
            for (int label : labels[number]) {
                CHECKS.due("arc(" + label + ")", x.arc(label), number);
            }
            CHECKS.due("least(" + number + ")", x.least(number), labels[number][0]);
        }
        CHECKS.due("least of one too many", x.least((int) x.many(2)), -1);
        CHECKS.due("least(-1)", x.least(-1), -1);
        CHECKS.due("least far off", x.least(Integer.MAX_VALUE), -1);
        CHECKS.due("least far below", x.least(Integer.MIN_VALUE), -1);
        for (int label : new int[] {0, -1, 777, 10000, Integer.MIN_VALUE, Integer.MAX_VALUE}) {
            CHECKS.due("arc(" + label + ")", x.arc(label), -1);
        }
    }

    private static void trefoil() {
        AlexanderMatrix x = Diagrams.of(Diagrams.TREFOIL, 0);
        arcs(x, new int[] {1, 6}, new int[] {2, 3}, new int[] {4, 5});
        x.change(0);
        arcs(x, new int[] {1, 2, 3, 6}, new int[] {4}, new int[] {5});
    }

    private static void labelsInAnotherOrder() {
        int[] names = {0, 70, 9999, 8, 500, 3, 60};
        AlexanderMatrix x = new AlexanderMatrix();
        for (int[] c : Diagrams.TREFOIL) {
            x.crossing(c[0], names[c[1]], names[c[2]], names[c[3]], names[c[4]]);
        }
        CHECKS.due("check(0)", x.check(0), 0);
        arcs(x, new int[] {3, 500}, new int[] {8, 9999}, new int[] {60, 70});
    }

    private static void closedArc() {
        arcs(Diagrams.of(Diagrams.TWO_APART, 0), new int[] {1}, new int[] {2}, new int[] {3, 4});
        arcs(Diagrams.of(Diagrams.KINK, 0), new int[] {1, 2});
    }

    private static void circlesAreBehind() {
        AlexanderMatrix x = Diagrams.of(Diagrams.TREFOIL, 3);
        arcs(x, new int[] {1, 6}, new int[] {2, 3}, new int[] {4, 5});
        for (int arc = 3; arc < 6; arc++) {
            CHECKS.due("least(" + arc + ")", x.least(arc), 0);
        }
        CHECKS.due("least(6)", x.least(6), -1);
        CHECKS.due("arc(0)", x.arc(0), -1);
    }
}
