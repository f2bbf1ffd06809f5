/** Promise 12. */
public final class SmoothTest {
    private static final Checks CHECKS = new Checks("SmoothTest");

    public static void main(String[] args) {
        lesserLabels();
        laterCrossingsMoveUp();
        braidsLoseALetter();
        circlesComeOff();
        noMoreThanNine();
        noneSuch();
        CHECKS.end();
    }

    private static void edges(AlexanderMatrix x, int... labels) {
        for (int label = 0; label < 40; label++) {
            boolean there = false;
            for (int one : labels) {
                there = there || one == label;
            }
            CHECKS.due("edge " + label, x.arc(label) >= 0, there);
        }
    }

    /** At crossing 1, edge 3 goes on by 1, and 6 by 4. */
    private static void lesserLabels() {
        AlexanderMatrix x = Diagrams.of(Diagrams.TREFOIL, 0);
        CHECKS.due("smooth(1)", x.smooth(1), true);
        CHECKS.due("many(0)", x.many(0), 2);
        CHECKS.due("many(1)", x.many(1), 0);
        edges(x, 1, 2, 4, 5);
        CHECKS.due("arc(1)", x.arc(1), 0);
        CHECKS.due("arc(2)", x.arc(2), 0);
        CHECKS.due("arc(4)", x.arc(4), 1);
        CHECKS.due("arc(5)", x.arc(5), 1);
        CHECKS.alexander("Hopf's link", x, 1, -1);
        CHECKS.due("smooth(0)", x.smooth(0), true);
        edges(x, 1, 2);
        CHECKS.alexander("kink", x, 1);
        CHECKS.due("smooth(0)", x.smooth(0), true);
        CHECKS.due("many(1)", x.many(1), 2);
        edges(x);
    }

    /** The others keep their order: at crossing 0 of the trefoil, 1 goes on by 5, and 4 by 2. */
    private static void laterCrossingsMoveUp() {
        AlexanderMatrix x = Diagrams.of(Diagrams.TREFOIL, 0);
        CHECKS.due("smooth(0)", x.smooth(0), true);
        edges(x, 1, 2, 3, 6);
        CHECKS.row(x, 0, 0, 1, -1);
        CHECKS.row(x, 0, 1, -1, 1);
        CHECKS.row(x, 1, 0, -1, 1);
        CHECKS.row(x, 1, 1, 1, -1);
        CHECKS.due("change(2)", x.change(2), false);
        x = Diagrams.of(new int[][] {{1, 1, 1, 2, 2}, {1, 3, 6, 4, 5}, {-1, 4, 6, 3, 5}}, 0);
        CHECKS.row(x, 1, 0, 0, 0, -1, 1);
        CHECKS.due("smooth(0)", x.smooth(0), true);
        CHECKS.due("many(0)", x.many(0), 2);
        CHECKS.due("many(1)", x.many(1), 2);
        CHECKS.due("least(0)", x.least(0), 3);
        CHECKS.row(x, 0, 0, 0, -1, 1, 0, 0);
    }

    private static void braidsLoseALetter() {
        int[] word = {1, -2, 1, 2, -1, 2, 2, -1, 1, -2, 1, 2};
        for (int k = 0; k < word.length; k++) {
            int[] less = new int[word.length - 1];
            for (int i = 0; i < less.length; i++) {
                less[i] = word[i < k ? i : i + 1];
            }
            AlexanderMatrix x = Diagrams.of(Diagrams.braid(3, word), 0);
            CHECKS.due("smooth(" + k + ")", x.smooth(k), true);
            AlexanderMatrix y = Diagrams.of(Diagrams.braid(3, less), 0);
            for (int what = 0; what < 7; what++) {
                CHECKS.due("without " + k + ": many(" + what + ")", x.many(what), y.many(what));
            }
            for (int e = 0; e < 12; e++) {
                CHECKS.due("without " + k + ": alexander(" + e + ")", x.alexander(e), y.alexander(e));
            }
        }
    }

    private static void circlesComeOff() {
        AlexanderMatrix x = Diagrams.of(Diagrams.KINK, 3);
        CHECKS.due("smooth(0)", x.smooth(0), true);
        CHECKS.due("many(0)", x.many(0), 0);
        CHECKS.due("many(1)", x.many(1), 5);
        CHECKS.due("many(2)", x.many(2), 5);
        CHECKS.due("least(4)", x.least(4), 0);
        x = Diagrams.of(Diagrams.braid(3, 1, -2), 0);
        CHECKS.due("smooth(1)", x.smooth(1), true);
        CHECKS.due("many(0)", x.many(0), 1);
        CHECKS.due("many(1)", x.many(1), 1);
    }

    private static void noMoreThanNine() {
        AlexanderMatrix x = Diagrams.of(Diagrams.KINK, 8);
        CHECKS.due("smooth(0) with 8 circles", x.smooth(0), false);
        CHECKS.due("many(0)", x.many(0), 1);
        CHECKS.due("many(1)", x.many(1), 8);
        edges(x, 1, 2);
        x = Diagrams.of(Diagrams.KINK, 7);
        CHECKS.due("smooth(0) with 7 circles", x.smooth(0), true);
        CHECKS.due("many(1)", x.many(1), 9);
        x = Diagrams.of(Diagrams.braid(3, 1, -2), 9);
        CHECKS.due("smooth(1) with 9 circles", x.smooth(1), false);
        CHECKS.due("many(0)", x.many(0), 2);
        x = Diagrams.of(Diagrams.braid(3, 1, -2), 8);
        CHECKS.due("smooth(1) with 8 circles", x.smooth(1), true);
        CHECKS.due("many(1)", x.many(1), 9);
        x = Diagrams.of(Diagrams.TREFOIL, 9);
        CHECKS.due("smooth(0) without a circle more", x.smooth(0), true);
    }

    private static void noneSuch() {
        AlexanderMatrix x = Diagrams.of(Diagrams.TREFOIL, 0);
        Diagrams.putIn(x, Diagrams.braid(2, 1, 1, 1, 1));
        for (int k : new int[] {-1, 3, 12, Integer.MIN_VALUE, Integer.MAX_VALUE}) {
            CHECKS.due("smooth(" + k + ")", x.smooth(k), false);
        }
        CHECKS.due("many(0)", x.many(0), 3);
        CHECKS.due("many(6)", x.many(6), 4);
        CHECKS.alexander("trefoil", x, 1, -1, 1);
    }
}
