/** Promise 8 at its edges. */
public final class MinorBoundaryTest {
    private static final Checks CHECKS = new Checks("MinorBoundaryTest");

    public static void main(String[] args) {
        CHECKS.sentence("all rows but the crossing's, and all columns but the arc's");
        firstAndLast();
        exchanged();
        CHECKS.sentence("(crossing -1: of all rows)");
        allRows();
        CHECKS.sentence("0 when there are not as many rows as columns then");
        notAsMany();
        CHECKS.sentence("or no such crossing");
        noSuchCrossing();
        CHECKS.sentence("or arc");
        noSuchArc();
        CHECKS.sentence("The coefficient of t to the e: exponents that do not occur");
        exponents();
        CHECKS.sentence("minor changes nothing");
        changesNothing();
        CHECKS.end();
    }

    /** The rows are (t, -1, 1-t), (1-t, t, -1), (-1, 1-t, t): by hand, with the sign of the place. */
    private static void firstAndLast() {
        for (int k = 0; k < 3; k++) {
            for (int arc = 0; arc < 3; arc++) {
                int sign = (k + arc) % 2 == 0 ? 1 : -1;
                CHECKS.minor(Diagrams.of(Diagrams.TREFOIL, 0), k, arc, sign, -sign, sign);
            }
        }
        AlexanderMatrix x = Diagrams.of(Diagrams.braid(2, Diagrams.power(12, 1)), 0);
        for (int k = 0; k < 12; k += 11) {
            for (int arc = 0; arc < 12; arc += 11) {
                long lowest = x.minor(k, arc, 0);
                CHECKS.due("minor(" + k + ", " + arc + ", 0) is 1 or -1", lowest * lowest, 1);
                for (int e = 0; e < 12; e++) {
                    CHECKS.due("minor(" + k + ", " + arc + ", " + e + ")", x.minor(k, arc, e),
                            e % 2 == 0 ? lowest : -lowest);
                }
            }
        }
    }

    /** The rows (0, 1-t, t), (1-t, t, 0), (-1, t, 1-t) are left: the first place of them is 0, so two are exchanged. */
    private static void exchanged() {
        int[][] row = Diagrams.inOrder(Diagrams.braid(3, 1, -2, 1, -2), 3, 0, 1, 2);
        CHECKS.minor(Diagrams.of(row, 0), 3, 3, -1, 3, -1);
    }

    /** Rows and columns are as many then only if one arc is closed or a circle: always 0 but for order 0. */
    private static void allRows() {
        CHECKS.minor(Diagrams.of(Diagrams.NOTHING, 1), -1, 0, 1);
        CHECKS.minor(Diagrams.of(Diagrams.NOTHING, 0), -1, 0);
        CHECKS.minor(Diagrams.of(Diagrams.NOTHING, 2), -1, 0);
        CHECKS.minor(Diagrams.of(Diagrams.NOTHING, 2), -1, 1);
        CHECKS.minor(Diagrams.of(Diagrams.KINK, 0), -1, 0);
        CHECKS.minor(Diagrams.of(Diagrams.KINK, 1), -1, 0);
        CHECKS.minor(Diagrams.of(Diagrams.KINK, 1), -1, 1);
        CHECKS.minor(Diagrams.of(Diagrams.TREFOIL, 0), -1, 0);
        CHECKS.minor(Diagrams.of(Diagrams.TREFOIL, 1), -1, 0);
        CHECKS.minor(Diagrams.of(Diagrams.TREFOIL, 1), -1, 3);
        CHECKS.minor(Diagrams.of(Diagrams.TWO_APART, 0), -1, 0);
        CHECKS.minor(Diagrams.of(Diagrams.TWO_APART, 0), -1, 2);
        CHECKS.minor(Diagrams.of(Diagrams.braid(2, Diagrams.power(6, 1, -1)), 0), -1, 12);
        CHECKS.minor(Diagrams.of(Diagrams.braid(2, Diagrams.power(12, 1)), 1), -1, 12);
        afterTheGreatestOrder(Diagrams.braid(2, Diagrams.power(12, 1)), 1);
        afterTheGreatestOrder(Diagrams.braid(2, Diagrams.power(6, 1, -1)), 0);
        noughtAfterGreaterOnes();
    }

    /** What 12 rows and 12 columns leave behind does not spoil the next minors. */
    private static void afterTheGreatestOrder(int[][] crossings, int circles) {
        AlexanderMatrix x = Diagrams.of(crossings, circles);
        for (int arc = 0; arc <= 13; arc++) {
            CHECKS.due("minor(-1, " + arc + ", 0)", x.minor(-1, arc, 0), 0);
            CHECKS.due("minor(-1, " + arc + ", 12)", x.minor(-1, arc, 12), 0);
        }
        Diagrams.load(x, Diagrams.TREFOIL, 0);
        CHECKS.minor(x, 0, 0, 1, -1, 1);
        CHECKS.minor(x, 2, 1, -1, 1, -1);
        CHECKS.alexander("trefoil", x, 1, -1, 1);
        x.check(1);
        CHECKS.minor(x, -1, 0, 1);
    }

    /** Rows that hang on one another, behind a greater minor of the same object: 0 again, not what was left of it. */
    private static void noughtAfterGreaterOnes() {
        int[][][] greater = {
            Diagrams.braid(2, Diagrams.power(12, 1)), Diagrams.braid(3, Diagrams.power(6, 1, -2)),
            Diagrams.braid(3, Diagrams.power(6, -1, 2)), Diagrams.braid(4, Diagrams.power(4, 1, -2, 3))};
        for (int[][] crossings : greater) {
            for (int n = 1; n <= 9; n++) {
                AlexanderMatrix x = Diagrams.of(crossings, 0);
                CHECKS.due("a minor of order 11", x.minor(n, 11 - n, 12), 0);
                Diagrams.load(x, Diagrams.braid(2, Diagrams.power(n, 1)), 1);
                CHECKS.minor(x, -1, 0);
                CHECKS.minor(x, -1, n);
                Diagrams.load(x, Diagrams.beside(Diagrams.braid(2, Diagrams.power(n, -1)), Diagrams.KINK), 0);
                CHECKS.minor(x, 0, 0);
                CHECKS.minor(x, n, n);
                CHECKS.alexander("two pieces", x);
            }
        }
    }

    /** Where one more or one less would do. */
    private static void notAsMany() {
        CHECKS.minor(Diagrams.of(Diagrams.TREFOIL, 0), 0, 0, 1, -1, 1);
        CHECKS.minor(Diagrams.of(Diagrams.TREFOIL, 0), -1, 0);
        CHECKS.minor(Diagrams.of(Diagrams.TREFOIL, 1), 0, 0);
        CHECKS.minor(Diagrams.of(Diagrams.TREFOIL, 1), 0, 3);
        CHECKS.minor(Diagrams.of(Diagrams.TREFOIL, 2), -1, 0);
        CHECKS.minor(Diagrams.of(Diagrams.TREFOIL, 9), -1, 11);
        CHECKS.minor(Diagrams.of(Diagrams.TREFOIL, 9), 2, 11);
        CHECKS.minor(Diagrams.of(Diagrams.KINK, 0), 0, 0, 1);
        CHECKS.minor(Diagrams.of(Diagrams.KINK, 1), 0, 0);
        CHECKS.minor(Diagrams.of(Diagrams.KINK, 1), 0, 1);
        CHECKS.minor(Diagrams.of(Diagrams.TWO_APART, 0), 0, 0);
        CHECKS.minor(Diagrams.of(Diagrams.TWO_APART, 0), 1, 2);
        CHECKS.minor(Diagrams.of(Diagrams.mostArcs(), 9), -1, 26);
        CHECKS.minor(Diagrams.of(Diagrams.mostArcs(), 9), 11, 26);
    }

    private static void noSuchCrossing() {
        for (int k : new int[] {Integer.MIN_VALUE, -3, -2, 3, 4, 12, Integer.MAX_VALUE}) {
            CHECKS.minor(Diagrams.of(Diagrams.TREFOIL, 0), k, 0);
            CHECKS.minor(Diagrams.of(Diagrams.TREFOIL, 1), k, 3);
        }
        CHECKS.minor(Diagrams.of(Diagrams.TREFOIL, 0), 2, 0, 1, -1, 1);
        for (int k : new int[] {Integer.MIN_VALUE, -2, 0, 1, Integer.MAX_VALUE}) {
            CHECKS.minor(Diagrams.of(Diagrams.NOTHING, 1), k, 0);
        }
        for (int k : new int[] {Integer.MIN_VALUE, -2, -1, 1, Integer.MAX_VALUE}) {
            CHECKS.minor(Diagrams.of(Diagrams.KINK, 0), k, 0);
        }
        for (int k : new int[] {-2, 12, 13}) {
            CHECKS.minor(Diagrams.of(Diagrams.braid(2, Diagrams.power(12, 1)), 0), k, 0);
        }
    }

    private static void noSuchArc() {
        for (int arc : new int[] {Integer.MIN_VALUE, -2, -1, 3, 4, 33, Integer.MAX_VALUE}) {
            CHECKS.minor(Diagrams.of(Diagrams.TREFOIL, 0), 0, arc);
            CHECKS.minor(Diagrams.of(Diagrams.TREFOIL, 0), -1, arc);
        }
        CHECKS.minor(Diagrams.of(Diagrams.TREFOIL, 0), 0, 2, 1, -1, 1);
        for (int arc : new int[] {Integer.MIN_VALUE, -1, 1, Integer.MAX_VALUE}) {
            CHECKS.minor(Diagrams.of(Diagrams.NOTHING, 1), -1, arc);
            CHECKS.minor(Diagrams.of(Diagrams.KINK, 0), 0, arc);
            CHECKS.minor(Diagrams.of(Diagrams.NOTHING, 0), -1, arc);
        }
        for (int arc : new int[] {-1, 12, 13}) {
            CHECKS.minor(Diagrams.of(Diagrams.braid(2, Diagrams.power(12, 1)), 0), 0, arc);
        }
    }

    private static void exponents() {
        AlexanderMatrix x = Diagrams.of(Diagrams.TREFOIL, 0);
        AlexanderMatrix y = Diagrams.of(Diagrams.braid(2, Diagrams.power(12, 1)), 0);
        for (int e : new int[] {Integer.MIN_VALUE, -2, -1, 12, 13, 24, 25, 26, 65536, Integer.MAX_VALUE}) {
            CHECKS.due("minor(0, 0, " + e + ")", x.minor(0, 0, e), 0);
            CHECKS.due("minor(0, 0, " + e + ") with 12 crossings", y.minor(0, 0, e), 0);
        }
        CHECKS.due("minor(0, 0, 2)", x.minor(0, 0, 2), 1);
        CHECKS.due("minor(0, 0, 3)", x.minor(0, 0, 3), 0);
        CHECKS.due("minor(0, 0, 0) is there with 12 crossings", y.minor(0, 0, 0) != 0, true);
        CHECKS.due("minor(0, 0, 11) is there with 12 crossings", y.minor(0, 0, 11) != 0, true);
    }

    private static void changesNothing() {
        for (Twins twins : Twins.inSmallStates(CHECKS)) {
            for (int n : new int[] {-2, -1, 0, 1, 3, 12}) {
                twins.changesNothing("minor(" + n + ", 0, 0)", x -> x.minor(n, 0, 0));
                twins.changesNothing("minor(0, " + n + ", 0)", x -> x.minor(0, n, 0));
                twins.changesNothing("minor(0, 0, " + n + ")", x -> x.minor(0, 0, n));
            }
        }
        for (Twins twins : Twins.inFullStates(CHECKS)) {
            twins.changesNothing("minor(11, 11, 11)", x -> x.minor(11, 11, 11));
        }
    }
}
