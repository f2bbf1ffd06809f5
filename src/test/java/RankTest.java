/** Promise 10. */
public final class RankTest {
    private static final Checks CHECKS = new Checks("RankTest");
    private static final int[] PRIMES = {
        2, 3, 5, 7, 11, 13, 17, 19, 23, 29, 31, 37, 41, 43, 47, 53, 59, 61, 67, 71, 73, 79, 83, 89, 97};

    public static void main(String[] args) {
        trefoil();
        figureEight();
        noPrimes();
        small();
        greatest();
        CHECKS.end();
    }

    /** The rank falls where 1 - t + t^2 is 0. */
    private static void trefoil() {
        AlexanderMatrix x = Diagrams.of(Diagrams.TREFOIL, 0);
        for (int p : PRIMES) {
            for (int t = -p; t <= 2 * p; t++) {
                int want = (1 - t + t * t) % p == 0 ? 1 : 2;
                CHECKS.due("rank(" + t + ", " + p + ")", x.rank(t, p), want);
            }
        }
        CHECKS.due("rank(MIN, 3): t is 1", x.rank(Integer.MIN_VALUE, 3), 2);
        CHECKS.due("rank(MAX, 3): t is 1", x.rank(Integer.MAX_VALUE, 3), 2);
        CHECKS.due("rank(MAX, 7): t is 1", x.rank(Integer.MAX_VALUE, 7), 2);
        CHECKS.due("rank(MIN, 7): t is 5", x.rank(Integer.MIN_VALUE, 7), 1);
    }

    private static void figureEight() {
        AlexanderMatrix x = Diagrams.of(Diagrams.braid(3, 1, -2, 1, -2), 0);
        CHECKS.due("rank(-1, 5)", x.rank(-1, 5), 2);
        CHECKS.due("rank(4, 5)", x.rank(4, 5), 2);
        CHECKS.due("rank(-1, 3)", x.rank(-1, 3), 3);
        CHECKS.due("rank(1, 5)", x.rank(1, 5), 3);
    }

    private static void noPrimes() {
        AlexanderMatrix x = Diagrams.of(Diagrams.TREFOIL, 0);
        for (int p = -10; p <= 200; p++) {
            boolean prime = java.util.Arrays.binarySearch(PRIMES, p) >= 0;
            CHECKS.due("rank(1, " + p + ")", x.rank(1, p), prime ? 2 : -1);
        }
        CHECKS.due("rank(1, MIN)", x.rank(1, Integer.MIN_VALUE), -1);
        CHECKS.due("rank(1, MAX)", x.rank(1, Integer.MAX_VALUE), -1);
    }

    private static void small() {
        CHECKS.due("nothing: rank(1, 2)", new AlexanderMatrix().rank(1, 2), 0);
        CHECKS.due("nothing: rank(1, 4)", new AlexanderMatrix().rank(1, 4), -1);
        CHECKS.due("circles: rank(5, 7)", Diagrams.of(new int[0][], 9).rank(5, 7), 0);
        CHECKS.due("kink: rank(5, 7)", Diagrams.of(Diagrams.KINK, 0).rank(5, 7), 0);
        CHECKS.due("apart: rank(5, 7)", Diagrams.of(Diagrams.TWO_APART, 0).rank(5, 7), 1);
        CHECKS.due("Hopf's link: rank(1, 7)", Diagrams.of(Diagrams.braid(2, 1, 1), 0).rank(1, 7), 0);
        CHECKS.due("Hopf's link: rank(2, 7)", Diagrams.of(Diagrams.braid(2, 1, 1), 0).rank(2, 7), 1);
    }

    private static void greatest() {
        AlexanderMatrix x = Diagrams.of(Diagrams.braid(2, Diagrams.power(12, 1)), 9);
        CHECKS.due("12 crossings: rank(1, 97)", x.rank(1, 97), 10);
        CHECKS.due("12 crossings: rank(2, 97)", x.rank(2, 97), 11);
        CHECKS.due("12 crossings: rank(-1, 3)", x.rank(-1, 3), 10);
    }
}
