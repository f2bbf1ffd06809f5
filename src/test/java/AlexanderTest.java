/** Promise 9: polynomials that stand in the tables of knots and links. */
public final class AlexanderTest {
    private static final Checks CHECKS = new Checks("AlexanderTest");

    public static void main(String[] args) {
        noneOrUnknotted();
        knots();
        links();
        greatest();
        furtherExponents();
        CHECKS.end();
    }

    private static void closure(String name, int[][] crossings, long... want) {
        CHECKS.alexander(name, Diagrams.of(crossings, 0), want);
    }

    private static void noneOrUnknotted() {
        CHECKS.alexander("nothing", Diagrams.of(new int[0][], 0));
        CHECKS.alexander("circle", Diagrams.of(new int[0][], 1), 1);
        CHECKS.alexander("two circles", Diagrams.of(new int[0][], 2));
        CHECKS.alexander("trefoil and circle", Diagrams.of(Diagrams.TREFOIL, 1));
        closure("kink", Diagrams.KINK, 1);
        closure("unknot", Diagrams.braid(3, 1, -2), 1);
        closure("one above the other", Diagrams.TWO_APART);
        closure("two kinks", new int[][] {{1, 1, 1, 2, 2}, {-1, 3, 4, 4, 3}});
    }

    private static void knots() {
        closure("3_1", Diagrams.braid(2, 1, 1, 1), 1, -1, 1);
        closure("3_1 mirrored", Diagrams.braid(2, -1, -1, -1), 1, -1, 1);
        closure("4_1", Diagrams.braid(3, 1, -2, 1, -2), 1, -3, 1);
        closure("5_1", Diagrams.braid(2, 1, 1, 1, 1, 1), 1, -1, 1, -1, 1);
        closure("5_2", Diagrams.braid(3, 1, 1, 1, 2, -1, 2), 2, -3, 2);
        closure("6_1", Diagrams.braid(4, 1, 1, 2, -1, -3, 2, -3), 2, -5, 2);
        closure("6_2", Diagrams.braid(3, -1, -1, -1, 2, -1, 2), 1, -3, 3, -3, 1);
        closure("6_3", Diagrams.braid(3, -1, -1, 2, -1, 2, 2), 1, -3, 5, -3, 1);
        closure("8_18", Diagrams.braid(3, Diagrams.power(4, -1, 2)), 1, -5, 10, -13, 10, -5, 1);
        closure("8_19", Diagrams.braid(3, Diagrams.power(4, 1, 2)), 1, -1, 0, 1, 0, -1, 1);
        closure("10_124", Diagrams.braid(3, Diagrams.power(5, 1, 2)), 1, -1, 0, 1, -1, 1, 0, -1, 1);
        closure("10_123", Diagrams.braid(3, Diagrams.power(5, -1, 2)), 1, -6, 15, -24, 29, -24, 15, -6, 1);
    }

    private static void links() {
        closure("Hopf's link", Diagrams.braid(2, 1, 1), 1, -1);
        closure("Solomon's link", Diagrams.braid(2, 1, 1, 1, 1), 1, -1, 1, -1);
        closure("Solomon's link, turned", Diagrams.turned(Diagrams.braid(2, 1, 1, 1, 1), 1), 2, -2);
        closure("Borromean rings", Diagrams.braid(3, Diagrams.power(3, 1, -2)), 1, -4, 6, -4, 1);
        closure("Whitehead's link", Diagrams.braid(3, 1, 1, -2, 1, -2), 1, -3, 3, -1);
    }

    private static void greatest() {
        long[] want = new long[12];
        for (int e = 0; e < 12; e++) {
            want[e] = e % 2 == 0 ? 1 : -1;
        }
        closure("two strands, 12 crossings", Diagrams.braid(2, Diagrams.power(12, 1)), want);
        closure("two strands, 12 crossings, mirrored", Diagrams.braid(2, Diagrams.power(12, -1)), want);
    }

    private static void furtherExponents() {
        AlexanderMatrix x = Diagrams.of(Diagrams.TREFOIL, 0);
        for (int e : new int[] {-1, 3, 100, Integer.MIN_VALUE, Integer.MAX_VALUE}) {
            CHECKS.due("alexander(" + e + ")", x.alexander(e), 0);
        }
    }
}
