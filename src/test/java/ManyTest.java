/** Promise 4. */
public final class ManyTest {
    private static final Checks CHECKS = new Checks("ManyTest");

    public static void main(String[] args) {
        all("trefoil", Diagrams.of(Diagrams.TREFOIL, 0), 3, 0, 3, 2, 1, 3, 0);
        all("trefoil and circles", Diagrams.of(Diagrams.TREFOIL, 9), 3, 9, 12, -1, 0, 0, 0);
        all("figure eight", Diagrams.of(Diagrams.braid(3, 1, -2, 1, -2), 0), 4, 0, 4, 2, -1, 5, 0);
        all("10_139", Diagrams.of(Diagrams.braid(3, 1, 1, 1, 1, 2, 1, 1, 1, 2, 2), 0), 10, 0, 10, 8, 1, -3, 0);
        all("one above the other", Diagrams.of(Diagrams.TWO_APART, 0), 2, 0, 3, -1, 0, 0, 0);
        all("kink", Diagrams.of(Diagrams.KINK, 0), 1, 0, 1, 0, 1, 1, 0);
        all("circle", Diagrams.of(new int[0][], 1), 0, 1, 1, 0, 1, 1, 0);
        all("two circles", Diagrams.of(new int[0][], 2), 0, 2, 2, -1, 0, 0, 0);
        putIn();
        others();
        CHECKS.end();
    }

    private static void all(String name, AlexanderMatrix x, long... want) {
        for (int what = 0; what < want.length; what++) {
            CHECKS.due(name + " many(" + what + ")", x.many(what), want[what]);
        }
    }

    private static void putIn() {
        AlexanderMatrix x = Diagrams.of(Diagrams.TREFOIL, 0);
        Diagrams.putIn(x, Diagrams.TWO_APART);
        all("trefoil and more put in", x, 3, 0, 3, 2, 1, 3, 2);
    }

    private static void others() {
        AlexanderMatrix x = Diagrams.of(Diagrams.TREFOIL, 0);
        for (int what : new int[] {-1, 7, 8, 1000, Integer.MIN_VALUE, Integer.MAX_VALUE}) {
            CHECKS.due("many(" + what + ")", x.many(what), -1000);
        }
    }
}
