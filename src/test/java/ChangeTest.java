/** Promise 11. */
public final class ChangeTest {
    private static final Checks CHECKS = new Checks("ChangeTest");

    public static void main(String[] args) {
        mirrors();
        thereAndBack();
        linksAndParts();
        placesBeginAnew();
        noneSuch();
        CHECKS.end();
    }

    /** With all crossings changed, the closure of a braid is that of the braid with all signs changed. */
    private static void mirrors() {
        int[] word = {1, -2, 3, 1, -2, 2, -3, 1, 2, 3, -1, 2};
        int[] mirrored = new int[word.length];
        for (int i = 0; i < word.length; i++) {
            mirrored[i] = -word[i];
        }
        AlexanderMatrix x = Diagrams.of(Diagrams.braid(4, word), 0);
        for (int k = 0; k < word.length; k++) {
            CHECKS.due("change(" + k + ")", x.change(k), true);
        }
        same(x, Diagrams.of(Diagrams.braid(4, mirrored), 0));
    }

    private static void same(AlexanderMatrix x, AlexanderMatrix y) {
        for (int what = 0; what < 7; what++) {
            CHECKS.due("many(" + what + ")", x.many(what), y.many(what));
        }
        for (int label = 1; label < 60; label++) {
            CHECKS.due("arc(" + label + ")", x.arc(label), y.arc(label));
        }
        for (int k = 0; k < y.many(0); k++) {
            for (int arc = 0; arc < y.many(2); arc++) {
                for (int e = 0; e < 2; e++) {
                    CHECKS.due("entry(" + k + ", " + arc + ", " + e + ")", x.entry(k, arc, e), y.entry(k, arc, e));
                }
            }
        }
    }

    private static void thereAndBack() {
        AlexanderMatrix x = Diagrams.of(Diagrams.TREFOIL, 2);
        x.change(2);
        CHECKS.due("many(1)", x.many(1), 2);
        CHECKS.due("arc(5)", x.arc(5), 0);
        CHECKS.due("arc(2)", x.arc(2), 1);
        CHECKS.due("arc(3)", x.arc(3), 2);
        x.change(2);
        same(x, Diagrams.of(Diagrams.TREFOIL, 2));
    }

    private static void linksAndParts() {
        AlexanderMatrix x = Diagrams.of(Diagrams.TREFOIL, 0);
        CHECKS.due("many(5)", x.many(5), 3);
        x.change(0);
        CHECKS.alexander("unknot", x, 1);
        x = Diagrams.of(Diagrams.TWO_APART, 0);
        CHECKS.due("change(1)", x.change(1), true);
        CHECKS.due("many(2)", x.many(2), 2);
        CHECKS.alexander("Hopf's link", x, 1, -1);
    }

    /** What is joined at a crossing does not depend on which strand is above. */
    private static void placesBeginAnew() {
        for (int k = 0; k < 3; k++) {
            AlexanderMatrix x = Diagrams.of(Diagrams.TREFOIL, 0);
            x.change(k);
            x.smooth(k);
            AlexanderMatrix y = Diagrams.of(Diagrams.TREFOIL, 0);
            y.smooth(k);
            same(x, y);
        }
    }

    private static void noneSuch() {
        AlexanderMatrix x = Diagrams.of(Diagrams.TREFOIL, 0);
        Diagrams.putIn(x, Diagrams.braid(2, 1, 1, 1, 1));
        for (int k : new int[] {-1, 3, 12, Integer.MIN_VALUE, Integer.MAX_VALUE}) {
            CHECKS.due("change(" + k + ")", x.change(k), false);
        }
        CHECKS.alexander("trefoil", x, 1, -1, 1);
        CHECKS.due("many(6)", x.many(6), 4);
    }
}
