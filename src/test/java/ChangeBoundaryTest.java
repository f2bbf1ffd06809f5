/** Promise 11 at its edges. */
public final class ChangeBoundaryTest {
    private static final Checks CHECKS = new Checks("ChangeBoundaryTest");
    private static final int[] FAR = {Integer.MIN_VALUE, -2, -1, 12, 13, 65536, Integer.MAX_VALUE};

    public static void main(String[] args) {
        CHECKS.sentence("True: the first and the last crossing");
        firstAndLast();
        CHECKS.sentence("false when there is none");
        noneSuch();
        CHECKS.sentence("false when there is none: nothing else has changed");
        changesNothing();
        CHECKS.sentence("the upper strand becomes the lower one, and its sign the other one");
        strandsAndSign();
        CHECKS.sentence("its places begin then where the new lower strand goes in");
        places();
        CHECKS.end();
    }

    private static void firstAndLast() {
        for (int n = 1; n <= 12; n++) {
            int[][] row = Diagrams.braid(2, Diagrams.power(n, 1));
            CHECKS.due("change(0) of " + n, Diagrams.of(row, 0).change(0), true);
            CHECKS.due("change(" + (n - 1) + ") of " + n, Diagrams.of(row, 0).change(n - 1), true);
            CHECKS.due("change(" + n + ") of " + n, Diagrams.of(row, 0).change(n), false);
            CHECKS.due("change(-1) of " + n, Diagrams.of(row, 0).change(-1), false);
        }
        AlexanderMatrix x = Diagrams.of(Diagrams.braid(2, Diagrams.power(12, 1)), 0);
        CHECKS.due("many(3)", x.many(3), 11);
        x.change(11);
        CHECKS.due("many(3) after change(11)", x.many(3), 9);
        x.change(0);
        CHECKS.due("many(3) after change(0)", x.many(3), 7);
    }

    private static void noneSuch() {
        for (int k : FAR) {
            CHECKS.due("change(" + k + ") of a new object", new AlexanderMatrix().change(k), false);
            CHECKS.due("change(" + k + ") of circles", Diagrams.of(Diagrams.NOTHING, 9).change(k), false);
            CHECKS.due("change(" + k + ") of a trefoil", Diagrams.of(Diagrams.TREFOIL, 0).change(k), false);
            CHECKS.due("change(" + k + ") of 12",
                    Diagrams.of(Diagrams.braid(2, Diagrams.power(12, 1)), 0).change(k), false);
        }
        CHECKS.due("change(0) of a new object", new AlexanderMatrix().change(0), false);
        AlexanderMatrix x = Diagrams.ofAndPutIn(Diagrams.NOTHING, 0, Diagrams.TREFOIL);
        CHECKS.due("change(0) of what is put in", x.change(0), false);
        x.check(0);
        CHECKS.due("change(2)", x.change(2), true);
        x.smooth(0);
        CHECKS.due("change(2) of two that are left", x.change(2), false);
        CHECKS.due("change(1) of two that are left", x.change(1), true);
    }

    private static void changesNothing() {
        for (Twins twins : Twins.inSmallStates(CHECKS)) {
            for (int k : new int[] {Integer.MIN_VALUE, -1, 3, 12, Integer.MAX_VALUE}) {
                twins.changesNothing("change(" + k + ")", x -> x.change(k) ? 1 : 0, 0);
            }
        }
        for (Twins twins : Twins.inFullStates(CHECKS)) {
            twins.changesNothing("change(-1)", x -> x.change(-1) ? 1 : 0, 0);
            twins.changesNothing("change(12)", x -> x.change(12) ? 1 : 0, 0);
        }
        for (Twins twins : Twins.inSmallStates(CHECKS)) {
            twins.changesNothing("a crossing changed twice", x -> x.change(1) == x.change(1) ? 1 : 0, 1);
        }
    }

    /** Of both signs: what was put in stays, the circles stay. */
    private static void strandsAndSign() {
        AlexanderMatrix x = Diagrams.ofAndPutIn(Diagrams.TREFOIL, 2, Diagrams.KINK);
        CHECKS.due("change(0)", x.change(0), true);
        CHECKS.due("many(0)", x.many(0), 3);
        CHECKS.due("many(1)", x.many(1), 2);
        CHECKS.due("many(6)", x.many(6), 1);
        CHECKS.row(x, 0, 0, 1, -1, 0, 0, 0);
        CHECKS.row(x, 0, 1, -1, 0, 1, 0, 0);
        CHECKS.due("change(0) back", x.change(0), true);
        CHECKS.row(x, 0, 0, 0, -1, 1, 0, 0);
        CHECKS.row(x, 0, 1, 1, 0, -1, 0, 0);
        x = Diagrams.of(Diagrams.TWO_APART, 0);
        CHECKS.due("many(2)", x.many(2), 3);
        x.change(0);
        CHECKS.due("many(2): the closed arc is cut", x.many(2), 2);
        x.change(1);
        CHECKS.due("many(2): the other component is above", x.many(2), 3);
        CHECKS.due("arc(2)", x.arc(2), 0);
        CHECKS.due("arc(3)", x.arc(3), 1);
        CHECKS.due("arc(4)", x.arc(4), 2);
        x = Diagrams.of(Diagrams.KINK, 0);
        x.change(0);
        CHECKS.due("kink: many(2)", x.many(2), 1);
        CHECKS.due("kink: arc(2)", x.arc(2), 0);
        CHECKS.row(x, 0, 0, 0);
        CHECKS.row(x, 0, 1, 0);
    }

    /** A crossing that begins at the wrong place goes another way when it is changed again or smoothed. */
    private static void places() {
        int[][][] diagrams = {
            Diagrams.TREFOIL, Diagrams.braid(2, -1, -1, -1), Diagrams.braid(3, 1, -2, 1, -2), Diagrams.TWO_APART,
            Diagrams.KINK, Diagrams.NEGATIVE_KINK};
        for (int[][] diagram : diagrams) {
            for (int k = 0; k < diagram.length; k++) {
                sameWhenSmoothed(diagram, k);
            }
        }
    }

    private static void sameWhenSmoothed(int[][] diagram, int k) {
        AlexanderMatrix plain = Diagrams.of(diagram, 0);
        AlexanderMatrix changed = Diagrams.of(diagram, 0);
        changed.change(k);
        CHECKS.due("smooth(" + k + ")", changed.smooth(k), plain.smooth(k));
        for (int what = 0; what <= 6; what++) {
            CHECKS.due("many(" + what + ") without " + k, changed.many(what), plain.many(what));
        }
        for (int label = 1; label <= 12; label++) {
            CHECKS.due("arc(" + label + ") without " + k, changed.arc(label), plain.arc(label));
        }
        for (int row = 0; row < diagram.length - 1; row++) {
            for (int arc = 0; arc < plain.many(2); arc++) {
                CHECKS.due("entry(" + row + ", " + arc + ", 0)", changed.entry(row, arc, 0), plain.entry(row, arc, 0));
                CHECKS.due("entry(" + row + ", " + arc + ", 1)", changed.entry(row, arc, 1), plain.entry(row, arc, 1));
            }
        }
    }
}
