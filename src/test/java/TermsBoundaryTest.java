import java.util.Arrays;

/** The words that the promises use, at their edges. */
public final class TermsBoundaryTest {
    private static final Checks CHECKS = new Checks("TermsBoundaryTest");

    public static void main(String[] args) {
        CHECKS.sentence("(1) every label there is stands at two places");
        atTwoPlaces();
        CHECKS.sentence("(2) one of them is where a strand goes in, the other one where one goes out");
        inAndOut();
        CHECKS.sentence("(3) every PIECE lies on a sphere: it has two FACES more than crossings");
        faces();
        CHECKS.sentence("PIECE - crossings that hang together by edges -, in whatever order they were put in");
        pieces();
        CHECKS.sentence("the next one leaves by the place q - 1 (modulo 4) of that crossing");
        turning();
        CHECKS.sentence("There are CIRCLES besides, components without crossings: a count");
        circles();
        CHECKS.sentence("An ARC is a row of edges next to one another over upper places, as long as it goes, or a circle");
        arcs();
        CHECKS.sentence("Arcs are numbered from 0 on by their least labels, circles behind them");
        numbers();
        CHECKS.sentence("what stands at one arc is added");
        added();
        CHECKS.sentence("MINORS .. in their order; the one of order 0 is 1");
        minors();
        CHECKS.sentence("0 when there is none such (there are no arcs, or too few rows)");
        noneSuch();
        CHECKS.sentence("the power of t and the sign that make its lowest exponent 0 and its coefficient there positive");
        normalForm();
        CHECKS.sentence("(A common divisor that all common divisors divide; over whole coefficients.)");
        wholeCoefficients();
        CHECKS.end();
    }

    private static void rule(int want, int[]... crossings) {
        CHECKS.due("check(0) of " + Arrays.deepToString(crossings),
                Diagrams.load(new AlexanderMatrix(), crossings, 0), want);
    }

    /** Never, once, twice, three times, four times; in one crossing and in several. */
    private static void atTwoPlaces() {
        rule(0);
        rule(1, new int[] {1, 1, 2, 3, 4});
        rule(0, new int[] {1, 1, 1, 2, 2});
        rule(1, new int[] {1, 1, 1, 2, 3});
        rule(1, new int[] {1, 1, 1, 1, 2});
        rule(1, new int[] {1, 2, 1, 1, 1});
        rule(1, new int[] {1, 1, 1, 1, 1});
        rule(0, Diagrams.braid(2, 1, 1));
        rule(1, new int[] {1, 1, 1, 2, 2}, new int[] {1, 1, 3, 3, 4});
        rule(1, new int[] {1, 1, 1, 2, 2}, new int[] {1, 1, 1, 2, 2});
        rule(1, new int[] {1, 1, 1, 2, 2}, new int[] {1, 3, 3, 2, 2});
        for (int k = 0; k < 12; k++) {
            for (int q = 1; q <= 4; q++) {
                int[][] row = Diagrams.braid(2, Diagrams.power(12, 1));
                row[k][q] = 9999;
                rule(1, row);
            }
        }
    }

    /** All ways to put two labels on the places of one crossing, twice each. */
    private static void inAndOut() {
        rule(0, new int[] {1, 1, 1, 2, 2});
        rule(2, new int[] {1, 1, 2, 2, 1});
        rule(3, new int[] {1, 1, 2, 1, 2});
        rule(2, new int[] {-1, 1, 1, 2, 2});
        rule(0, new int[] {-1, 1, 2, 2, 1});
        rule(3, new int[] {-1, 1, 2, 1, 2});
        rule(2, new int[] {1, 4, 1, 3, 2}, new int[] {1, 2, 3, 1, 4});
        for (int k = 0; k < 12; k++) {
            int[][] row = Diagrams.braid(2, Diagrams.power(12, 1));
            row[k][0] = -1;
            rule(2, row);
        }
    }

    /** The closure of two strands that change their sides where no crossing is: two faces too few. */
    private static int[][] twisted(int letters) {
        int[][] row = Diagrams.braid(2, Diagrams.power(letters, 1));
        int[] last = row[letters - 1];
        int kept = last[2];
        last[2] = last[3];
        last[3] = kept;
        return row;
    }

    /** A piece with two faces too few and a piece on a sphere have two faces more than crossings together. */
    private static void faces() {
        rule(0);
        for (int letters = 1; letters <= 12; letters++) {
            rule(0, Diagrams.braid(2, Diagrams.power(letters, 1)));
            rule(0, Diagrams.braid(2, Diagrams.power(letters, -1)));
            rule(3, twisted(letters));
        }
        rule(0, Diagrams.beside(Diagrams.KINK, Diagrams.NEGATIVE_KINK));
        rule(0, Diagrams.beside(Diagrams.TREFOIL, Diagrams.TREFOIL, Diagrams.TREFOIL, Diagrams.TREFOIL));
        rule(0, Diagrams.mostArcs());
        rule(3, Diagrams.beside(Diagrams.KINK, Diagrams.NO_SPHERE));
        rule(3, Diagrams.beside(Diagrams.NO_SPHERE, Diagrams.KINK));
        rule(3, Diagrams.beside(Diagrams.NO_SPHERE, Diagrams.NO_SPHERE));
        rule(3, Diagrams.beside(Diagrams.NO_SPHERE, Diagrams.KINK, Diagrams.KINK));
        rule(3, Diagrams.beside(Diagrams.TREFOIL, twisted(9)));
        int[][] twelveKinks = Diagrams.NOTHING;
        for (int n = 1; n <= 12; n++) {
            twelveKinks = Diagrams.beside(twelveKinks, n % 2 == 0 ? Diagrams.KINK : Diagrams.NEGATIVE_KINK);
            rule(0, twelveKinks);
        }
        twelveKinks[11] = new int[] {1, 98, 99, 98, 99};
        rule(3, twelveKinks);
    }

    /** A chain of four, where the first one hangs together with the last one by the others alone. */
    private static void pieces() {
        int[][] chain = Diagrams.braid(5, 1, 2, 3, 4);
        int[][] ring = twisted(4);
        for (int[] order : Diagrams.ordersOfFour()) {
            int[][] shuffled = Diagrams.inOrder(chain, order);
            rule(0, shuffled);
            rule(0, Diagrams.beside(shuffled, Diagrams.KINK, shuffled));
            rule(3, Diagrams.inOrder(ring, order));
            rule(3, Diagrams.beside(shuffled, Diagrams.inOrder(ring, order)));
            int[][] three = Diagrams.beside(Diagrams.TWO_APART, Diagrams.KINK, Diagrams.NEGATIVE_KINK);
            rule(0, Diagrams.inOrder(three, order));
        }
    }

    /** The same places turned: the edges are the same ones, yet the faces are others. */
    private static void turning() {
        rule(0, new int[] {1, 1, 5, 2, 4}, new int[] {1, 3, 1, 4, 6}, new int[] {1, 5, 3, 6, 2});
        rule(3, new int[] {1, 1, 5, 2, 4}, new int[] {1, 3, 1, 4, 6}, new int[] {-1, 5, 2, 6, 3});
        rule(3, new int[] {-1, 1, 4, 2, 5}, new int[] {1, 3, 1, 4, 6}, new int[] {1, 5, 3, 6, 2});
        rule(0, new int[] {-1, 1, 4, 2, 5}, new int[] {-1, 3, 6, 4, 1}, new int[] {-1, 5, 2, 6, 3});
        rule(0, new int[] {1, 1, 4, 2, 3}, new int[] {-1, 2, 4, 1, 3});
        rule(3, new int[] {1, 1, 4, 2, 3}, new int[] {1, 2, 3, 1, 4});
    }

    private static void circles() {
        for (int n = 0; n <= 9; n++) {
            AlexanderMatrix x = Diagrams.of(Diagrams.NOTHING, n);
            CHECKS.due("many(0)", x.many(0), 0);
            CHECKS.due("many(1)", x.many(1), n);
            CHECKS.due("many(2)", x.many(2), n);
            for (int arc = 0; arc <= 10; arc++) {
                CHECKS.due("least(" + arc + ") with " + n + " circles", x.least(arc), arc < n ? 0 : -1);
            }
        }
    }

    private static void arcs() {
        AlexanderMatrix x = Diagrams.of(Diagrams.KINK, 0);
        CHECKS.due("kink: arc(1)", x.arc(1), 0);
        CHECKS.due("kink: arc(2)", x.arc(2), 0);
        CHECKS.due("kink: many(2)", x.many(2), 1);
        x = Diagrams.of(Diagrams.braid(2, Diagrams.power(6, 1, -1)), 0);
        CHECKS.due("above everywhere and below everywhere: many(2)", x.many(2), 13);
        long edges = 0;
        for (int label = 1; label <= 26; label++) {
            edges += x.arc(label) == 0 ? 1 : 0;
        }
        CHECKS.due("edges of the arc that closes", edges, 12);
        x = Diagrams.of(Diagrams.braid(2, Diagrams.power(12, 1)), 0);
        CHECKS.due("above and below by turns: many(2)", x.many(2), 12);
        x = Diagrams.of(Diagrams.mostArcs(), 9);
        CHECKS.due("six pieces: many(2)", x.many(2), 27);
        for (int piece = 0; piece < 6; piece++) {
            for (int label = 1; label <= 4; label++) {
                CHECKS.due("arc(" + (4 * piece + label) + ")", x.arc(4 * piece + label),
                        3 * piece + Math.min(label, 3) - 1);
            }
        }
        CHECKS.due("arc(25)", x.arc(25), -1);
    }

    /** The same three arcs under other labels, with the least one first, in the midst, and last. */
    private static void numbers() {
        int[][] names = {
            {0, 1, 2, 3, 4, 5, 6}, {0, 6, 5, 4, 3, 2, 1}, {0, 9999, 1, 9998, 2, 5000, 3}, {0, 10, 9, 8, 1, 2, 3}};
        int[][] pairs = {{1, 6}, {2, 3}, {4, 5}};
        for (int[] to : names) {
            AlexanderMatrix x = Diagrams.of(Diagrams.renamed(Diagrams.TREFOIL, to), 9);
            int[] leasts = new int[3];
            for (int i = 0; i < 3; i++) {
                leasts[i] = Math.min(to[pairs[i][0]], to[pairs[i][1]]);
            }
            int[] sorted = leasts.clone();
            Arrays.sort(sorted);
            for (int i = 0; i < 3; i++) {
                int number = Arrays.binarySearch(sorted, leasts[i]);
                CHECKS.due("arc(" + to[pairs[i][0]] + ")", x.arc(to[pairs[i][0]]), number);
                CHECKS.due("arc(" + to[pairs[i][1]] + ")", x.arc(to[pairs[i][1]]), number);
                CHECKS.due("least(" + i + ")", x.least(i), sorted[i]);
            }
            for (int arc = 3; arc <= 12; arc++) {
                CHECKS.due("least(" + arc + ")", x.least(arc), arc < 12 ? 0 : -1);
            }
        }
    }

    /** In below, out below and above being one arc, two of them, or three, for both signs. */
    private static void added() {
        AlexanderMatrix x = Diagrams.of(Diagrams.TREFOIL, 0);
        x.change(0);
        CHECKS.row(x, 0, 0, 1, -1, 0);
        CHECKS.row(x, 0, 1, -1, 0, 1);
        CHECKS.row(x, 1, 0, 1, -1, 0);
        CHECKS.row(x, 1, 1, 0, 0, 0);
        CHECKS.row(x, 2, 0, 0, 0, 0);
        CHECKS.row(x, 2, 1, -1, 0, 1);
        x = Diagrams.of(Diagrams.TREFOIL, 0);
        x.change(1);
        x.change(2);
        CHECKS.row(x, 0, 0, 0, -1, 1);
        CHECKS.row(x, 0, 1, 1, 0, -1);
        CHECKS.row(x, 1, 0, 0, 0, 0);
        CHECKS.row(x, 1, 1, 1, 0, -1);
        CHECKS.row(x, 2, 0, 0, -1, 1);
        CHECKS.row(x, 2, 1, 0, 0, 0);
        for (int letter = -1; letter <= 1; letter += 2) {
            x = Diagrams.of(Diagrams.braid(2, letter, letter), 0);
            int lower = letter == 1 ? 1 : 0;
            CHECKS.due("in and out alike: constant", x.entry(0, lower, 0), -1);
            CHECKS.due("in and out alike: slope", x.entry(0, lower, 1), 1);
            CHECKS.due("the upper one: constant", x.entry(0, 1 - lower, 0), 1);
            CHECKS.due("the upper one: slope", x.entry(0, 1 - lower, 1), -1);
            x = Diagrams.of(Diagrams.braid(2, letter), 0);
            CHECKS.row(x, 0, 0, 0);
            CHECKS.row(x, 0, 1, 0);
        }
    }

    private static void minors() {
        CHECKS.minor(Diagrams.of(Diagrams.NOTHING, 1), -1, 0, 1);
        CHECKS.minor(Diagrams.of(Diagrams.KINK, 0), 0, 0, 1);
        CHECKS.minor(Diagrams.of(Diagrams.NEGATIVE_KINK, 0), 0, 0, 1);
        AlexanderMatrix x = Diagrams.of(Diagrams.braid(2, 1, 1), 0);
        for (int k = 0; k < 2; k++) {
            for (int arc = 0; arc < 2; arc++) {
                CHECKS.minor(x, k, arc, x.entry(1 - k, 1 - arc, 0), x.entry(1 - k, 1 - arc, 1));
            }
        }
        x = Diagrams.of(Diagrams.TREFOIL, 0);
        CHECKS.minor(x, 0, 0, 1, -1, 1);
        CHECKS.minor(x, 0, 1, -1, 1, -1);
        CHECKS.minor(x, 2, 1, -1, 1, -1);
        CHECKS.minor(x, 2, 2, 1, -1, 1);
    }

    private static void noneSuch() {
        CHECKS.alexander("no arcs", Diagrams.of(Diagrams.NOTHING, 0));
        CHECKS.alexander("one arc, order 0", Diagrams.of(Diagrams.NOTHING, 1), 1);
        for (int n = 2; n <= 9; n++) {
            CHECKS.alexander(n + " circles, no rows", Diagrams.of(Diagrams.NOTHING, n));
        }
        CHECKS.alexander("a kink, order 0", Diagrams.of(Diagrams.KINK, 0), 1);
        CHECKS.alexander("a kink and a circle, order 1, one row of 0", Diagrams.of(Diagrams.KINK, 1));
        CHECKS.alexander("a kink and two circles, order 2, one row", Diagrams.of(Diagrams.KINK, 2));
        CHECKS.alexander("trefoil, order 2", Diagrams.of(Diagrams.TREFOIL, 0), 1, -1, 1);
        CHECKS.alexander("trefoil and circle, order 3, all rows", Diagrams.of(Diagrams.TREFOIL, 1));
        CHECKS.alexander("trefoil and two circles, too few rows", Diagrams.of(Diagrams.TREFOIL, 2));
        CHECKS.alexander("one closed arc, order 2, all rows", Diagrams.of(Diagrams.TWO_APART, 0));
        CHECKS.alexander("two closed arcs, too few rows",
                Diagrams.of(Diagrams.beside(Diagrams.TWO_APART, Diagrams.TWO_APART), 0));
        CHECKS.alexander("27 arcs, 12 rows", Diagrams.of(Diagrams.mostArcs(), 9));
        CHECKS.alexander("two pieces, as many rows as arcs",
                Diagrams.of(Diagrams.beside(Diagrams.TREFOIL, Diagrams.KINK), 0));
    }

    /** Its minors are -t and 1; that of the link, t - 1. */
    private static void normalForm() {
        AlexanderMatrix x = Diagrams.of(Diagrams.TREFOIL, 0);
        x.change(0);
        CHECKS.minor(x, 0, 0, 0, -1);
        CHECKS.alexander("unknot", x, 1);
        x = Diagrams.of(Diagrams.TREFOIL, 0);
        x.smooth(1);
        CHECKS.minor(x, 0, 0, -1, 1);
        CHECKS.alexander("Hopf's link", x, 1, -1);
        x = Diagrams.of(Diagrams.braid(3, 1, -2, 1, -2), 0);
        CHECKS.alexander("figure eight", x, 1, -3, 1);
        int[][] mirrored = Diagrams.braid(2, Diagrams.power(12, -1));
        x = Diagrams.of(mirrored, 0);
        CHECKS.due("alexander(0)", x.alexander(0), 1);
        CHECKS.due("alexander(11)", x.alexander(11), -1);
        CHECKS.due("alexander(12)", x.alexander(12), 0);
    }

    /** Two strands with n twists that run against one another: n divides every minor, so it stays. */
    private static void wholeCoefficients() {
        for (int n = 1; n <= 6; n++) {
            int[][] twists = Diagrams.turned(Diagrams.braid(2, Diagrams.power(2 * n, 1)), 1);
            CHECKS.alexander(n + " twists", Diagrams.of(twists, 0), n, -n);
        }
        CHECKS.alexander("5_2", Diagrams.of(Diagrams.braid(3, 1, 1, 1, 2, -1, 2), 0), 2, -3, 2);
    }
}
