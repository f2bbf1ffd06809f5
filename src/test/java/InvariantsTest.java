import java.util.Arrays;
import java.util.Random;

/**
 * Promises 3, 4, 9, 11 and 12 against what is known of the Alexander polynomial of a link, and not
 * against the document's words: no diagram of the link changes it, it is the same read backwards but
 * for the sign, it is 1 or -1 at 1 for a knot and 0 for other links, and three links that are
 * alike but for one crossing are bound to one another.
 */
public final class InvariantsTest {
    private static final int LINKS = 400;
    private static final int[][][] RELATIONS = {
        {{1, 2, 1}, {2, 1, 2}}, {{-1, -2, -1}, {-2, -1, -2}}, {{1, 2, -1}, {-2, 1, 2}}, {{1, -2, -1}, {-2, -1, 2}},
        {{-1, 2, 1}, {2, 1, -2}}, {{-1, -2, 1}, {2, -1, -2}}};

    private final Checks checks = new Checks("InvariantsTest");
    private final Random random = new Random(20261116);

    public static void main(String[] args) {
        new InvariantsTest().all();
    }

    private void all() {
        for (int i = 0; i < LINKS; i++) {
            int[][] link = link(1 + random.nextInt(9));
            int[][] other = Moves.moved(link, 12, random);
            sameLink(link, other);
            itself(other);
            for (int k = 0; k < other.length; k++) {
                threeLinks(other, k);
            }
        }
        braidRelations();
        crossingsThatGoAway();
        checks.end();
    }

    private int[][] link(int letters) {
        int strands = 2 + random.nextInt(4);
        return Diagrams.braid(strands, word(strands, letters));
    }

    private int[] word(int strands, int letters) {
        int[] word = new int[letters];
        for (int i = 0; i < letters; i++) {
            word[i] = (1 + random.nextInt(strands - 1)) * (random.nextBoolean() ? 1 : -1);
        }
        return word;
    }

    private static long[] polynomial(AlexanderMatrix x) {
        long[] found = new long[(int) x.many(3) + 1];
        for (int e = 0; e < found.length; e++) {
            found[e] = x.alexander(e);
        }
        return found;
    }

    private static long[] polynomial(int[][] diagram) {
        return polynomial(Diagrams.of(diagram, 0));
    }

    private void sameLink(int[][] link, int[][] other) {
        checks.alexander(Arrays.deepToString(other), Diagrams.of(other, 0), polynomial(link));
    }

    private void itself(int[][] diagram) {
        AlexanderMatrix x = Diagrams.of(diagram, 0);
        String name = Arrays.deepToString(diagram);
        long[] found = polynomial(x);
        boolean odd = found.length > 0 && found[found.length - 1] < 0;
        for (int e = 0; e < found.length; e++) {
            long backwards = found[found.length - 1 - e];
            checks.due(name + " backwards, " + e, found[e], odd ? -backwards : backwards);
        }
        boolean knot = Moves.components(diagram) == 1;
        checks.due(name + " many(4)", Math.abs(x.many(4)), knot ? 1 : 0);
        checks.due(name + " many(5) is odd", Math.floorMod(x.many(5), 2L), knot ? 1 : 0);
        for (int k = 0; k < diagram.length; k++) {
            checks.due(name + " change(" + k + ")", x.change(k), true);
        }
        checks.alexander(name + ", mirrored", x, found);
    }

    /** The first less the second, with a sign each, is the third times the root of t less its inverse. */
    private void threeLinks(int[][] diagram, int k) {
        AlexanderMatrix changed = Diagrams.of(diagram, 0);
        changed.change(k);
        AlexanderMatrix smoothed = Diagrams.of(diagram, 0);
        smoothed.smooth(k);
        long[] one = centred(polynomial(diagram));
        long[] two = centred(polynomial(changed));
        long[] three = centred(polynomial(smoothed));
        boolean good = false;
        for (int signs = 0; signs < 4; signs++) {
            boolean equal = true;
            for (int i = 1; i < one.length - 1; i++) {
                long left = one[i] + ((signs & 1) == 0 ? two[i] : -two[i]);
                long right = three[i - 1] - three[i + 1];
                equal = equal && left == ((signs & 2) == 0 ? right : -right);
            }
            good = good || equal;
        }
        checks.due(Arrays.deepToString(diagram) + " changed and smoothed at " + k, good, true);
    }

    /** In the root of t, with the exponent 0 at 30. */
    private static long[] centred(long[] polynomial) {
        long[] spread = new long[61];
        for (int e = 0; e < polynomial.length; e++) {
            spread[30 + 2 * e - (polynomial.length - 1)] = polynomial[e];
        }
        return spread;
    }

    /** A strand is moved over, between, or under where two others cross. */
    private void braidRelations() {
        for (int i = 0; i < LINKS; i++) {
            int[] before = word(4, random.nextInt(5));
            int[] after = word(4, random.nextInt(6));
            int shift = random.nextInt(2);
            int[][] relation = RELATIONS[random.nextInt(RELATIONS.length)];
            sameLink(joined(before, relation[0], shift, after), joined(before, relation[1], shift, after));
        }
    }

    private static int[][] joined(int[] before, int[] between, int shift, int[] after) {
        int[] word = Arrays.copyOf(before, before.length + between.length + after.length);
        for (int i = 0; i < between.length; i++) {
            word[before.length + i] = between[i] + (between[i] < 0 ? -shift : shift);
        }
        System.arraycopy(after, 0, word, before.length + between.length, after.length);
        return Diagrams.braid(4, word);
    }

    /** An unknot stays one with any loops and overlaps, and so do two that are apart. */
    private void crossingsThatGoAway() {
        for (int i = 0; i < LINKS; i++) {
            int most = 2 + random.nextInt(11);
            checks.alexander("unknot", Diagrams.of(Moves.moved(Diagrams.KINK, most, random), 0), 1);
            int[][] apart = Diagrams.beside(Diagrams.KINK, Diagrams.NEGATIVE_KINK);
            checks.alexander("two apart", Diagrams.of(Moves.moved(apart, most, random), 0));
        }
    }
}
