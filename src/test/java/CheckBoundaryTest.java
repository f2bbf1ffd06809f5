import java.util.Arrays;

/** Promise 3 at its edges; what makes a diagram is in TermsBoundaryTest. */
public final class CheckBoundaryTest {
    private static final Checks CHECKS = new Checks("CheckBoundaryTest");
    private static final int[][] ONE_LABEL_TOO_FEW = {{1, 1, 1, 2, 3}};
    private static final int[][] IN_AND_IN = {{-1, 1, 1, 2, 2}};
    private static final int[][][] BROKEN = {ONE_LABEL_TOO_FEW, IN_AND_IN, Diagrams.NO_SPHERE};

    public static void main(String[] args) {
        CHECKS.sentence("0 when they are a diagram, which is the one there is from now on");
        fromNowOn();
        CHECKS.sentence("otherwise the first of (1), (2), (3) that is not so");
        theFirst();
        CHECKS.sentence("The crossings that were put in: with an object that has checked others before");
        afterOthers();
        CHECKS.sentence("(the diagram stays)");
        theDiagramStays();
        CHECKS.sentence("when circles is not 0 .. 9");
        circles();
        CHECKS.sentence("-1, doing nothing");
        doingNothing();
        CHECKS.sentence("Whatever was put in is gone");
        gone();
        CHECKS.end();
    }

    private static void fromNowOn() {
        AlexanderMatrix x = Diagrams.of(Diagrams.TREFOIL, 4);
        CHECKS.due("many(3)", x.many(3), -1);
        CHECKS.due("check(0) of a trefoil", Diagrams.load(x, Diagrams.TREFOIL, 0), 0);
        CHECKS.alexander("trefoil", x, 1, -1, 1);
        CHECKS.due("check(1) of a kink", Diagrams.load(x, Diagrams.KINK, 1), 0);
        CHECKS.due("many(0)", x.many(0), 1);
        CHECKS.due("many(1)", x.many(1), 1);
        CHECKS.due("many(2)", x.many(2), 2);
        CHECKS.due("arc(3): an edge of the diagram before", x.arc(3), -1);
        CHECKS.due("check(1) of nothing", x.check(1), 0);
        CHECKS.due("many(0)", x.many(0), 0);
        CHECKS.due("many(2)", x.many(2), 1);
        CHECKS.due("arc(1): an edge of the diagram before", x.arc(1), -1);
        CHECKS.alexander("a circle", x, 1);
        CHECKS.due("check(0) of nothing", x.check(0), 0);
        CHECKS.due("many(2)", x.many(2), 0);
        CHECKS.alexander("nothing", x);
        CHECKS.due("12 crossings", Diagrams.load(x, Diagrams.braid(2, Diagrams.power(12, -1)), 9), 0);
        CHECKS.due("many(0)", x.many(0), 12);
        CHECKS.due("many(1)", x.many(1), 9);
        CHECKS.due("many(2)", x.many(2), 21);
    }

    private static void broken(int want, int[][]... parts) {
        int[][] row = Diagrams.beside(parts);
        CHECKS.due("check(0) of " + Arrays.deepToString(row), Diagrams.load(new AlexanderMatrix(), row, 0), want);
    }

    /** In every order, beside what is a diagram and without it. */
    private static void theFirst() {
        for (int i = 0; i < 3; i++) {
            broken(i + 1, BROKEN[i]);
            broken(i + 1, BROKEN[i], Diagrams.TREFOIL);
            broken(i + 1, Diagrams.TREFOIL, BROKEN[i]);
            broken(i + 1, Diagrams.KINK, BROKEN[i], Diagrams.NEGATIVE_KINK);
            for (int j = 0; j < 3; j++) {
                broken(Math.min(i, j) + 1, BROKEN[i], BROKEN[j]);
                broken(Math.min(i, j) + 1, BROKEN[i], Diagrams.TREFOIL, BROKEN[j]);
                for (int k = 0; k < 3; k++) {
                    broken(Math.min(Math.min(i, j), k) + 1, BROKEN[i], BROKEN[j], BROKEN[k]);
                }
            }
        }
        broken(0, Diagrams.KINK, Diagrams.TREFOIL, Diagrams.NEGATIVE_KINK);
    }

    private static void afterOthers() {
        int[][] chain = Diagrams.braid(5, 1, 2, 3, 4);
        int[][][] rows = {
            Diagrams.NOTHING, Diagrams.KINK, Diagrams.NEGATIVE_KINK, BROKEN[0], BROKEN[1], BROKEN[2], Diagrams.TREFOIL,
            chain, Diagrams.inOrder(chain, 0, 2, 1, 3), Diagrams.inOrder(chain, 3, 1, 2, 0),
            Diagrams.beside(Diagrams.KINK, Diagrams.NEGATIVE_KINK, Diagrams.KINK),
            Diagrams.beside(Diagrams.NEGATIVE_KINK, BROKEN[2]), Diagrams.braid(2, Diagrams.power(12, 1))};
        int[] answers = {0, 0, 0, 1, 2, 3, 0, 0, 0, 0, 0, 3, 0};
        for (int i = 0; i < rows.length; i++) {
            for (int j = 0; j < rows.length; j++) {
                AlexanderMatrix x = new AlexanderMatrix();
                CHECKS.due("row " + i, Diagrams.load(x, rows[i], 0), answers[i]);
                CHECKS.due("row " + j + " after row " + i, Diagrams.load(x, rows[j], 0), answers[j]);
                CHECKS.due("row " + i + " again", Diagrams.load(x, rows[i], 0), answers[i]);
            }
        }
    }

    /** Three answers of rule n on a diagram that has its own circles, and the same diagram after them. */
    private static void theDiagramStays() {
        for (int i = 0; i < 3; i++) {
            for (int circles : new int[] {0, 3, 9}) {
                AlexanderMatrix x = Diagrams.of(Diagrams.TREFOIL, 0);
                CHECKS.due("check(" + circles + ")", Diagrams.load(x, BROKEN[i], circles), i + 1);
                CHECKS.due("many(0)", x.many(0), 3);
                CHECKS.due("many(1)", x.many(1), 0);
                CHECKS.due("many(2)", x.many(2), 3);
                CHECKS.due("arc(6)", x.arc(6), 0);
                CHECKS.row(x, 0, 0, 0, -1, 1);
                CHECKS.minor(x, 1, 2, -1, 1, -1);
                CHECKS.due("rank(-1, 3)", x.rank(-1, 3), 1);
                CHECKS.alexander("trefoil", x, 1, -1, 1);
            }
            int rule = i;
            for (int circles = 0; circles <= 9; circles += 9) {
                int number = circles;
                Twins twins = new Twins(CHECKS, () -> Diagrams.of(Diagrams.TREFOIL, 2));
                twins.changesNothing("rule " + (rule + 1) + " broken with " + number + " circles",
                        x -> Diagrams.load(x, BROKEN[rule], number), rule + 1);
            }
        }
    }

    private static void circles() {
        for (int good = 0; good <= 9; good++) {
            AlexanderMatrix x = new AlexanderMatrix();
            CHECKS.due("check(" + good + ")", Diagrams.load(x, Diagrams.KINK, good), 0);
            CHECKS.due("many(1)", x.many(1), good);
            CHECKS.due("many(2)", x.many(2), good + 1);
        }
        for (int bad : new int[] {-1, 10, -2, 11, 256, Integer.MIN_VALUE, Integer.MAX_VALUE}) {
            AlexanderMatrix x = new AlexanderMatrix();
            CHECKS.due("check(" + bad + ") of a kink", Diagrams.load(x, Diagrams.KINK, bad), -1);
            CHECKS.due("check(" + bad + ") of nothing", new AlexanderMatrix().check(bad), -1);
            for (int[][] row : BROKEN) {
                CHECKS.due("check(" + bad + ")", Diagrams.load(new AlexanderMatrix(), row, bad), -1);
            }
        }
    }

    private static void doingNothing() {
        for (Twins twins : Twins.inSmallStates(CHECKS)) {
            twins.changesNothing("check(-1)", x -> x.check(-1), -1);
            twins.changesNothing("check(10)", x -> x.check(10), -1);
            twins.changesNothing("check(MIN)", x -> x.check(Integer.MIN_VALUE), -1);
            twins.changesNothing("check(MAX)", x -> x.check(Integer.MAX_VALUE), -1);
        }
        for (Twins twins : Twins.inFullStates(CHECKS)) {
            twins.changesNothing("check(10)", x -> x.check(10), -1);
        }
        AlexanderMatrix x = Diagrams.of(Diagrams.TREFOIL, 0);
        x.crossing(1, 1, 1, 2, 2);
        CHECKS.due("check(10)", x.check(10), -1);
        CHECKS.due("many(6): what was put in stays", x.many(6), 1);
        CHECKS.due("many(0)", x.many(0), 3);
        CHECKS.due("check(9)", x.check(9), 0);
        CHECKS.due("many(0)", x.many(0), 1);
    }

    private static void gone() {
        int[][][] rows = {Diagrams.NOTHING, Diagrams.KINK, BROKEN[0], BROKEN[1], BROKEN[2]};
        int[] answers = {0, 0, 1, 2, 3};
        for (int i = 0; i < rows.length; i++) {
            AlexanderMatrix x = Diagrams.ofAndPutIn(Diagrams.TREFOIL, 0, rows[i]);
            CHECKS.due("many(6)", x.many(6), rows[i].length);
            CHECKS.due("check(0)", x.check(0), answers[i]);
            CHECKS.due("many(6)", x.many(6), 0);
            CHECKS.due("the first one after it", x.crossing(1, 7, 7, 8, 8), 1);
            CHECKS.due("check(0) of that one alone", x.check(0), 0);
            CHECKS.due("many(0)", x.many(0), 1);
            CHECKS.due("arc(7)", x.arc(7), 0);
            CHECKS.due("arc(1)", x.arc(1), -1);
        }
    }
}
