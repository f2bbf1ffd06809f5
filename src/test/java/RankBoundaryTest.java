/** Promise 10 at its edges. */
public final class RankBoundaryTest {
    private static final Checks CHECKS = new Checks("RankBoundaryTest");
    private static final int[] PRIMES = {
        2, 3, 5, 7, 11, 13, 17, 19, 23, 29, 31, 37, 41, 43, 47, 53, 59, 61, 67, 71, 73, 79, 83, 89, 97};

    public static void main(String[] args) {
        CHECKS.sentence("-1 when p is not a prime");
        noPrimes();
        CHECKS.sentence("from 2 to 97");
        firstAndLastPrime();
        CHECKS.sentence("(t is taken modulo p)");
        modulo();
        CHECKS.sentence("The rank of the matrix: without rows, without columns, of rows that are 0");
        least();
        CHECKS.sentence("The rank of the matrix: as great as it can be");
        greatest();
        CHECKS.sentence("rank changes nothing");
        changesNothing();
        CHECKS.end();
    }

    private static boolean isPrime(int p) {
        for (int prime : PRIMES) {
            if (prime == p) {
                return true;
            }
        }
        return false;
    }

    /** With 1 for t the trefoil's rank is 2, whatever the prime. */
    private static void noPrimes() {
        AlexanderMatrix x = Diagrams.of(Diagrams.TREFOIL, 0);
        AlexanderMatrix y = new AlexanderMatrix();
        for (int p = -100; p <= 130; p++) {
            CHECKS.due("rank(1, " + p + ")", x.rank(1, p), isPrime(p) ? 2 : -1);
            CHECKS.due("rank(1, " + p + ") of a new object", y.rank(1, p), isPrime(p) ? 0 : -1);
        }
        for (int p : new int[] {Integer.MIN_VALUE, -65537, 9409, 65537, 46337, 46349, 258, Integer.MAX_VALUE}) {
            CHECKS.due("rank(1, " + p + ")", x.rank(1, p), -1);
            CHECKS.due("rank(1, " + p + ") of a new object", y.rank(1, p), -1);
        }
    }

    private static void firstAndLastPrime() {
        AlexanderMatrix x = Diagrams.of(Diagrams.TREFOIL, 0);
        CHECKS.due("rank(0, 1)", x.rank(0, 1), -1);
        CHECKS.due("rank(0, 2)", x.rank(0, 2), 2);
        CHECKS.due("rank(1, 2)", x.rank(1, 2), 2);
        CHECKS.due("rank(0, 3)", x.rank(0, 3), 2);
        CHECKS.due("rank(2, 3)", x.rank(2, 3), 1);
        CHECKS.due("rank(0, 89)", x.rank(0, 89), 2);
        CHECKS.due("rank(0, 96)", x.rank(0, 96), -1);
        CHECKS.due("rank(0, 97)", x.rank(0, 97), 2);
        CHECKS.due("rank(36, 97): 1 - t + t^2 is 13 times 97", x.rank(36, 97), 1);
        CHECKS.due("rank(62, 97): 1 - t + t^2 is 39 times 97", x.rank(62, 97), 1);
        CHECKS.due("rank(35, 97)", x.rank(35, 97), 2);
        CHECKS.due("rank(0, 98)", x.rank(0, 98), -1);
        CHECKS.due("rank(0, 101)", x.rank(0, 101), -1);
        CHECKS.due("rank(0, 103)", x.rank(0, 103), -1);
    }

    private static void modulo() {
        AlexanderMatrix x = Diagrams.of(Diagrams.TREFOIL, 0);
        for (int p : new int[] {3, 7, 13, 97}) {
            for (int t : new int[] {0, 1, 2, 3, 4, 5, 36, 62, p - 1}) {
                long want = 1L - t + (long) t * t;
                int due = want % p == 0 ? 1 : 2;
                CHECKS.due("rank(" + t + ", " + p + ")", x.rank(t, p), due);
                CHECKS.due("rank(" + (t + p) + ", " + p + ")", x.rank(t + p, p), due);
                CHECKS.due("rank(" + (t - p) + ", " + p + ")", x.rank(t - p, p), due);
                int rounds = (Integer.MAX_VALUE - t) / p;
                CHECKS.due("t far above, p " + p, x.rank(t + rounds * p, p), due);
                CHECKS.due("t far below, p " + p, x.rank(t - rounds * p, p), due);
            }
        }
        for (int p : PRIMES) {
            for (int t : new int[] {Integer.MIN_VALUE, Integer.MIN_VALUE + 1, Integer.MAX_VALUE - 1, Integer.MAX_VALUE}) {
                long want = 1L - t + (long) t * t;
                CHECKS.due("rank(" + t + ", " + p + ")", x.rank(t, p), want % p == 0 ? 1 : 2);
            }
        }
    }

    private static void least() {
        for (int p : PRIMES) {
            CHECKS.due("nothing: rank(1, " + p + ")", new AlexanderMatrix().rank(1, p), 0);
            CHECKS.due("circles: rank(1, " + p + ")", Diagrams.of(Diagrams.NOTHING, 9).rank(1, p), 0);
            CHECKS.due("kink: rank(2, " + p + ")", Diagrams.of(Diagrams.KINK, 0).rank(2, p), 0);
            CHECKS.due("kink and circles: rank(2, " + p + ")", Diagrams.of(Diagrams.KINK, 9).rank(2, p), 0);
            AlexanderMatrix hopf = Diagrams.of(Diagrams.braid(2, 1, 1), 0);
            CHECKS.due("Hopf's link: rank(1, " + p + ")", hopf.rank(1, p), 0);
            CHECKS.due("Hopf's link: rank(0, " + p + ")", hopf.rank(0, p), 1);
        }
    }

    /** Each piece has one row that follows from the others, and each of two that lie apart. */
    private static void greatest() {
        int[][] twelve = Diagrams.braid(2, Diagrams.power(12, 1));
        for (int p : PRIMES) {
            CHECKS.due("12 crossings: rank(0, " + p + ")", Diagrams.of(twelve, 0).rank(0, p), 11);
            CHECKS.due("12 crossings and circles: rank(0, " + p + ")", Diagrams.of(twelve, 9).rank(0, p), 11);
            CHECKS.due("12 crossings: rank(1, " + p + ")", Diagrams.of(twelve, 0).rank(1, p), 10);
            CHECKS.due("six pieces: rank(1, " + p + ")", Diagrams.of(Diagrams.mostArcs(), 9).rank(1, p), 6);
        }
        int[][] sum = Diagrams.braid(5, 1, 1, 1, 2, 2, 2, 3, 3, 3, 4, 4, 4);
        CHECKS.due("four trefoils: rank(-1, 3)", Diagrams.of(sum, 0).rank(-1, 3), 7);
        CHECKS.due("four trefoils: rank(-1, 5)", Diagrams.of(sum, 0).rank(-1, 5), 11);
    }

    private static void changesNothing() {
        for (Twins twins : Twins.inSmallStates(CHECKS)) {
            for (int p : new int[] {-1, 0, 1, 2, 3, 4, 97, 98, 101}) {
                twins.changesNothing("rank(-1, " + p + ")", x -> x.rank(-1, p));
            }
        }
        for (Twins twins : Twins.inFullStates(CHECKS)) {
            twins.changesNothing("rank(2, 97)", x -> x.rank(2, 97));
        }
    }
}
