/** Promise 9 at its edges; when the polynomial is 0, and its normal form, are in TermsBoundaryTest. */
public final class AlexanderBoundaryTest {
    private static final Checks CHECKS = new Checks("AlexanderBoundaryTest");
    private static final int[] FAR = {Integer.MIN_VALUE, -2, -1, 12, 13, 24, 25, 26, 33, 65536, Integer.MAX_VALUE};

    public static void main(String[] args) {
        CHECKS.sentence("The coefficient of t to the e: exponents that do not occur");
        exponents();
        CHECKS.sentence("The coefficient of t to the e: of a polynomial that is 0");
        ofNought();
        CHECKS.sentence("in the Alexander polynomial: of the diagram that there is now");
        ofTheDiagramNow();
        CHECKS.sentence("in the Alexander polynomial: up to 12 crossings");
        greatest();
        CHECKS.sentence("alexander changes nothing");
        changesNothing();
        CHECKS.end();
    }

    private static void exponents() {
        AlexanderMatrix trefoil = Diagrams.of(Diagrams.TREFOIL, 0);
        AlexanderMatrix twelve = Diagrams.of(Diagrams.braid(2, Diagrams.power(12, 1)), 0);
        for (int e : FAR) {
            CHECKS.due("trefoil: alexander(" + e + ")", trefoil.alexander(e), 0);
            CHECKS.due("12 crossings: alexander(" + e + ")", twelve.alexander(e), 0);
        }
        CHECKS.due("trefoil: alexander(0)", trefoil.alexander(0), 1);
        CHECKS.due("trefoil: alexander(2)", trefoil.alexander(2), 1);
        CHECKS.due("trefoil: alexander(3)", trefoil.alexander(3), 0);
        CHECKS.due("12 crossings: alexander(0)", twelve.alexander(0), 1);
        CHECKS.due("12 crossings: alexander(11)", twelve.alexander(11), -1);
    }

    private static void ofNought() {
        AlexanderMatrix[] nought = {
            new AlexanderMatrix(), Diagrams.of(Diagrams.NOTHING, 2), Diagrams.of(Diagrams.NOTHING, 9),
            Diagrams.of(Diagrams.TREFOIL, 1), Diagrams.of(Diagrams.TREFOIL, 2), Diagrams.of(Diagrams.TWO_APART, 0),
            Diagrams.of(Diagrams.mostArcs(), 9)};
        for (AlexanderMatrix x : nought) {
            CHECKS.alexander("0", x);
            for (int e : FAR) {
                CHECKS.due("alexander(" + e + ")", x.alexander(e), 0);
            }
        }
        CHECKS.alexander("a circle alone", Diagrams.of(Diagrams.NOTHING, 1), 1);
    }

    /** It was asked for before each of the calls that make it another one, and before each that is refused. */
    private static void ofTheDiagramNow() {
        AlexanderMatrix x = Diagrams.of(Diagrams.TREFOIL, 0);
        CHECKS.alexander("trefoil", x, 1, -1, 1);
        x.crossing(1, 1, 1, 2, 2);
        CHECKS.alexander("trefoil, with a crossing put in", x, 1, -1, 1);
        x.check(10);
        CHECKS.alexander("trefoil, after a refused check", x, 1, -1, 1);
        x.crossing(1, 1, 1, 2, 2);
        x.check(0);
        CHECKS.alexander("trefoil, after a check of no diagram", x, 1, -1, 1);
        x.change(3);
        x.smooth(-1);
        CHECKS.alexander("trefoil, after refused changes", x, 1, -1, 1);
        x.change(0);
        CHECKS.alexander("unknot", x, 1);
        x.change(0);
        CHECKS.alexander("trefoil again", x, 1, -1, 1);
        x.smooth(0);
        CHECKS.alexander("Hopf's link", x, 1, -1);
        x.smooth(0);
        CHECKS.alexander("kink", x, 1);
        x.smooth(0);
        CHECKS.alexander("two circles", x);
        x.check(1);
        CHECKS.alexander("a circle", x, 1);
        x.check(0);
        CHECKS.alexander("nothing", x);
    }

    /** By Burau's matrices, the one by turns is (1 - 3t + t^2) (1 + t^2)^2 (1 - t)^4. */
    private static void greatest() {
        long[] want = new long[12];
        for (int e = 0; e < 12; e++) {
            want[e] = e % 2 == 0 ? 1 : -1;
        }
        CHECKS.alexander("12 crossings", Diagrams.of(Diagrams.braid(2, Diagrams.power(12, 1)), 0), want);
        CHECKS.alexander("12 crossings, mirrored", Diagrams.of(Diagrams.braid(2, Diagrams.power(12, -1)), 0), want);
        CHECKS.alexander("12 crossings by turns", Diagrams.of(Diagrams.braid(3, Diagrams.power(6, 1, -2)), 0),
                1, -7, 21, -40, 58, -66, 58, -40, 21, -7, 1);
        int[][] sum = Diagrams.braid(5, 1, 1, 1, 2, 2, 2, 3, 3, 3, 4, 4, 4);
        CHECKS.alexander("four trefoils in one knot", Diagrams.of(sum, 0), 1, -4, 10, -16, 19, -16, 10, -4, 1);
    }

    private static void changesNothing() {
        for (Twins twins : Twins.inSmallStates(CHECKS)) {
            for (int e : new int[] {-1, 0, 1, 2, 3, 100}) {
                twins.changesNothing("alexander(" + e + ")", x -> x.alexander(e));
            }
        }
        for (Twins twins : Twins.inFullStates(CHECKS)) {
            twins.changesNothing("alexander(0)", x -> x.alexander(0));
        }
    }
}
