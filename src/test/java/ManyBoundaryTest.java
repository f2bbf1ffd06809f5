/** Promise 4 at its edges. */
public final class ManyBoundaryTest {
    private static final Checks CHECKS = new Checks("ManyBoundaryTest");

    public static void main(String[] args) {
        CHECKS.sentence("0 crossings");
        crossings();
        CHECKS.sentence("1 circles");
        circles();
        CHECKS.sentence("2 arcs");
        arcs();
        CHECKS.sentence("3 the greatest exponent .. (-1: it is 0)");
        greatestExponent();
        CHECKS.sentence("4 the value of that with 1 for t, 5 with -1 (either may be below 0)");
        values();
        CHECKS.sentence("6 crossings that were put in");
        putIn();
        CHECKS.sentence("-1000 for others");
        others();
        CHECKS.end();
    }

    private static void crossings() {
        for (int n = 0; n <= 12; n++) {
            AlexanderMatrix x = Diagrams.of(Diagrams.braid(2, Diagrams.power(n, 1)), 0);
            CHECKS.due("many(0)", x.many(0), n);
        }
        AlexanderMatrix x = Diagrams.of(Diagrams.braid(2, Diagrams.power(12, 1)), 0);
        for (int n = 11; n >= 0; n--) {
            x.smooth(n);
            CHECKS.due("many(0) after smooth(" + n + ")", x.many(0), n);
        }
    }

    private static void circles() {
        for (int n = 0; n <= 9; n++) {
            CHECKS.due("many(1)", Diagrams.of(Diagrams.TREFOIL, n).many(1), n);
        }
        CHECKS.due("many(1): a component that is always above is none", Diagrams.of(Diagrams.TWO_APART, 0).many(1), 0);
    }

    private static void arcs() {
        CHECKS.due("nothing: many(2)", Diagrams.of(Diagrams.NOTHING, 0).many(2), 0);
        CHECKS.due("a circle: many(2)", Diagrams.of(Diagrams.NOTHING, 1).many(2), 1);
        CHECKS.due("nine circles: many(2)", Diagrams.of(Diagrams.NOTHING, 9).many(2), 9);
        CHECKS.due("a kink: many(2)", Diagrams.of(Diagrams.KINK, 0).many(2), 1);
        CHECKS.due("a kink and circles: many(2)", Diagrams.of(Diagrams.KINK, 9).many(2), 10);
        CHECKS.due("as many as there can be: many(2)", Diagrams.of(Diagrams.mostArcs(), 9).many(2), 27);
    }

    private static void greatestExponent() {
        CHECKS.due("it is 0: many(3)", Diagrams.of(Diagrams.NOTHING, 0).many(3), -1);
        CHECKS.due("it is 0: many(3)", Diagrams.of(Diagrams.NOTHING, 2).many(3), -1);
        CHECKS.due("it is 0: many(3)", Diagrams.of(Diagrams.TREFOIL, 1).many(3), -1);
        CHECKS.due("it is 0: many(3)", Diagrams.of(Diagrams.TWO_APART, 0).many(3), -1);
        CHECKS.due("it is 1: many(3)", Diagrams.of(Diagrams.NOTHING, 1).many(3), 0);
        CHECKS.due("it is 1: many(3)", Diagrams.of(Diagrams.KINK, 0).many(3), 0);
        for (int n = 1; n <= 12; n++) {
            AlexanderMatrix x = Diagrams.of(Diagrams.braid(2, Diagrams.power(n, 1)), 0);
            CHECKS.due(n + " crossings: many(3)", x.many(3), n - 1);
            x = Diagrams.of(Diagrams.braid(2, Diagrams.power(n, -1)), 0);
            CHECKS.due(n + " crossings, mirrored: many(3)", x.many(3), n - 1);
        }
    }

    private static void values(String name, AlexanderMatrix x, long one, long minusOne) {
        CHECKS.due(name + ": many(4)", x.many(4), one);
        CHECKS.due(name + ": many(5)", x.many(5), minusOne);
    }

    /** 1 - 3t + t^2 is -1 at 1; 1 - t + 2t^3 - 3t^4 + 2t^5 - t^7 + t^8, of 10_139, is -3 at -1. */
    private static void values() {
        values("nothing", Diagrams.of(Diagrams.NOTHING, 0), 0, 0);
        values("two circles", Diagrams.of(Diagrams.NOTHING, 2), 0, 0);
        values("a circle", Diagrams.of(Diagrams.NOTHING, 1), 1, 1);
        values("trefoil", Diagrams.of(Diagrams.TREFOIL, 0), 1, 3);
        values("figure eight", Diagrams.of(Diagrams.braid(3, 1, -2, 1, -2), 0), -1, 5);
        values("10_139", Diagrams.of(Diagrams.braid(3, 1, 1, 1, 1, 2, 1, 1, 1, 2, 2), 0), 1, -3);
        values("Whitehead's link", Diagrams.of(Diagrams.braid(3, 1, 1, -2, 1, -2), 0), 0, 8);
        values("12 crossings", Diagrams.of(Diagrams.braid(2, Diagrams.power(12, 1)), 0), 0, 12);
        values("8_18", Diagrams.of(Diagrams.braid(3, Diagrams.power(4, -1, 2)), 0), -1, 45);
        values("12 crossings by turns", Diagrams.of(Diagrams.braid(3, Diagrams.power(6, 1, -2)), 0), 0, 320);
    }

    private static void putIn() {
        AlexanderMatrix x = Diagrams.of(Diagrams.TREFOIL, 0);
        for (int n = 0; n <= 12; n++) {
            CHECKS.due("many(6)", x.many(6), n);
            CHECKS.due("many(0)", x.many(0), 3);
            x.crossing(1, 1, 1, 2, 2);
        }
        CHECKS.due("many(6) after a 13th one", x.many(6), 12);
        x.change(0);
        x.smooth(0);
        CHECKS.due("many(6) after the diagram was changed", x.many(6), 12);
        x.check(10);
        CHECKS.due("many(6) after check(10)", x.many(6), 12);
        x.check(0);
        CHECKS.due("many(6) after check(0)", x.many(6), 0);
        CHECKS.due("many(0)", x.many(0), 2);
    }

    private static void others() {
        AlexanderMatrix x = Diagrams.of(Diagrams.TREFOIL, 0);
        CHECKS.due("many(0)", x.many(0), 3);
        CHECKS.due("many(6)", x.many(6), 0);
        for (int what : new int[] {-1, 7, -2, 8, 100, 256, 65536, -1000, Integer.MIN_VALUE, Integer.MAX_VALUE}) {
            CHECKS.due("many(" + what + ")", x.many(what), -1000);
            CHECKS.due("many(" + what + ") of a new object", new AlexanderMatrix().many(what), -1000);
        }
        for (Twins twins : Twins.inSmallStates(CHECKS)) {
            for (int i = -1; i <= 7; i++) {
                int what = i;
                twins.changesNothing("many(" + what + ")", y -> y.many(what));
            }
        }
    }
}
