/** Promise 8. */
public final class MinorTest {
    private static final Checks CHECKS = new Checks("MinorTest");

    public static void main(String[] args) {
        trefoil();
        figureEight();
        orderNought();
        moreArcsThanCrossings();
        noneSuch();
        followsTheDiagram();
        CHECKS.end();
    }

    /** Worked out by hand from the rows (t, -1, 1-t), (1-t, t, -1), (-1, 1-t, t). */
    private static void trefoil() {
        AlexanderMatrix x = Diagrams.of(Diagrams.TREFOIL, 0);
        CHECKS.minor(x, 0, 0, 1, -1, 1);
        CHECKS.minor(x, 0, 1, -1, 1, -1);
        CHECKS.minor(x, 0, 2, 1, -1, 1);
        CHECKS.minor(x, 1, 0, -1, 1, -1);
        CHECKS.minor(x, 1, 1, 1, -1, 1);
        CHECKS.minor(x, 1, 2, -1, 1, -1);
        CHECKS.minor(x, 2, 0, 1, -1, 1);
        CHECKS.minor(x, 2, 1, -1, 1, -1);
        CHECKS.minor(x, 2, 2, 1, -1, 1);
        CHECKS.minor(x, -1, 0);
    }

    /** By hand: the rows (0, 1-t, t), (1-t, t, 0), (-1, t, 1-t), with nothing to begin from at the first place. */
    private static void figureEight() {
        int[][] c = Diagrams.braid(3, 1, -2, 1, -2);
        AlexanderMatrix x = Diagrams.of(new int[][] {c[3], c[0], c[1], c[2]}, 0);
        CHECKS.row(x, 0, 0, 0, 1, 0, -1);
        CHECKS.row(x, 0, 1, 0, -1, 1, 0);
        CHECKS.minor(x, 3, 3, -1, 3, -1);
    }

    private static void orderNought() {
        CHECKS.minor(Diagrams.of(Diagrams.KINK, 0), 0, 0, 1);
        CHECKS.minor(Diagrams.of(Diagrams.KINK, 0), -1, 0);
        CHECKS.minor(Diagrams.of(new int[0][], 1), -1, 0, 1);
        CHECKS.minor(Diagrams.of(new int[0][], 1), 0, 0);
    }

    private static void moreArcsThanCrossings() {
        AlexanderMatrix x = Diagrams.of(Diagrams.TWO_APART, 0);
        for (int arc = 0; arc < 3; arc++) {
            CHECKS.minor(x, -1, arc);
            CHECKS.minor(x, 0, arc);
        }
        CHECKS.minor(Diagrams.of(Diagrams.TREFOIL, 1), 0, 3);
        CHECKS.minor(Diagrams.of(Diagrams.TREFOIL, 2), -1, 0);
        CHECKS.minor(Diagrams.of(Diagrams.TREFOIL, 2), 0, 0);
        CHECKS.minor(Diagrams.of(new int[0][], 2), -1, 0);
    }

    private static void noneSuch() {
        AlexanderMatrix x = Diagrams.of(Diagrams.TREFOIL, 0);
        for (int far : new int[] {-2, 3, 12, Integer.MIN_VALUE, Integer.MAX_VALUE}) {
            CHECKS.minor(x, far, 0);
            CHECKS.minor(x, 0, far);
            CHECKS.due("minor(0, 0, " + far + ")", x.minor(0, 0, far), 0);
        }
        CHECKS.minor(x, 0, -1);
        CHECKS.minor(Diagrams.of(new int[0][], 1), -1, 1);
        CHECKS.minor(Diagrams.of(new int[0][], 1), -2, 0);
        CHECKS.minor(Diagrams.of(new int[0][], 1), -1, -1);
    }

    /** The same minor is asked for again after each change of the diagram. */
    private static void followsTheDiagram() {
        AlexanderMatrix x = Diagrams.of(Diagrams.TREFOIL, 0);
        CHECKS.minor(x, 0, 0, 1, -1, 1);
        x.change(0);
        CHECKS.minor(x, 0, 0, 0, -1);
        x.change(0);
        CHECKS.minor(x, 0, 0, 1, -1, 1);
        x.smooth(1);
        CHECKS.minor(x, 0, 0, -1, 1);
        CHECKS.minor(x, 0, 1, 1, -1);
        Diagrams.load(x, Diagrams.KINK, 0);
        CHECKS.minor(x, 0, 0, 1);
    }
}
