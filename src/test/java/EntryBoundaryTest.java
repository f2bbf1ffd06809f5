/** Promise 7 at its edges. */
public final class EntryBoundaryTest {
    private static final Checks CHECKS = new Checks("EntryBoundaryTest");
    private static final int[] FAR = {Integer.MIN_VALUE, -2, -1, 12, 13, 33, 64, 65536, Integer.MAX_VALUE};

    public static void main(String[] args) {
        CHECKS.sentence("0 when there is none such: a crossing");
        noCrossing();
        CHECKS.sentence("0 when there is none such: an arc");
        noArc();
        CHECKS.sentence("0 when there is none such: an exponent");
        noExponent();
        CHECKS.sentence("0 when there is none such: after the diagram has become less");
        less();
        CHECKS.sentence("entry changes nothing");
        changesNothing();
        CHECKS.end();
    }

    /** All rows of this one have the constant 1 and the slope -1 at some arc. */
    private static AlexanderMatrix twelve(int circles) {
        return Diagrams.of(Diagrams.braid(2, Diagrams.power(12, 1)), circles);
    }

    private static int inRow(AlexanderMatrix x, int crossing) {
        int found = 0;
        for (int arc = 0; arc < 12; arc++) {
            found += Math.abs(x.entry(crossing, arc, 0)) + Math.abs(x.entry(crossing, arc, 1));
        }
        return found;
    }

    private static void noCrossing() {
        AlexanderMatrix x = twelve(0);
        for (int k = 0; k < 12; k++) {
            CHECKS.due("coefficients in row " + k, inRow(x, k), 4);
        }
        x = twelve(0);
        for (int k : FAR) {
            CHECKS.due("coefficients in row " + k, inRow(x, k), 0);
        }
        x = Diagrams.of(Diagrams.TREFOIL, 0);
        CHECKS.due("entry(2, 0, 0)", x.entry(2, 0, 0), -1);
        CHECKS.due("entry(3, 0, 0)", x.entry(3, 0, 0), 0);
        CHECKS.due("entry(-1, 0, 0)", x.entry(-1, 0, 0), 0);
    }

    private static void noArc() {
        AlexanderMatrix x = Diagrams.of(Diagrams.TREFOIL, 9);
        CHECKS.row(x, 0, 0, 0, -1, 1, 0, 0, 0, 0, 0, 0, 0, 0, 0, 0, 0);
        CHECKS.row(x, 0, 1, 1, 0, -1, 0, 0, 0, 0, 0, 0, 0, 0, 0, 0, 0);
        for (int arc : FAR) {
            for (int k = 0; k < 3; k++) {
                CHECKS.due("entry(" + k + ", " + arc + ", 0)", x.entry(k, arc, 0), 0);
                CHECKS.due("entry(" + k + ", " + arc + ", 1)", x.entry(k, arc, 1), 0);
            }
        }
        x = Diagrams.of(Diagrams.mostArcs(), 9);
        CHECKS.row(x, 11, 0, 0, 0, 0, 0, 0, 0, 0, 0, 0, 0, 0, 0, 0, 0, 0, 0, -1, 1, 0, 0, 0, 0, 0, 0, 0, 0, 0, 0);
        CHECKS.row(x, 11, 1, 0, 0, 0, 0, 0, 0, 0, 0, 0, 0, 0, 0, 0, 0, 0, 1, 0, -1, 0, 0, 0, 0, 0, 0, 0, 0, 0, 0);
    }

    /** The row is t, -1, 1 - t. */
    private static void noExponent() {
        AlexanderMatrix x = Diagrams.of(Diagrams.TREFOIL, 0);
        CHECKS.row(x, 0, -1, 0, 0, 0);
        CHECKS.row(x, 0, 0, 0, -1, 1);
        CHECKS.row(x, 0, 1, 1, 0, -1);
        CHECKS.row(x, 0, 2, 0, 0, 0);
        for (int e : FAR) {
            CHECKS.row(x, 0, e, 0, 0, 0);
        }
    }

    private static void less() {
        AlexanderMatrix x = twelve(9);
        Diagrams.load(x, Diagrams.TREFOIL, 0);
        for (int k = 3; k < 13; k++) {
            CHECKS.due("coefficients in row " + k, inRow(x, k), 0);
        }
        x = Diagrams.of(Diagrams.TREFOIL, 0);
        CHECKS.due("coefficients in row 2", inRow(x, 2), 4);
        x.smooth(0);
        CHECKS.due("coefficients in row 1", inRow(x, 1), 4);
        CHECKS.due("coefficients in row 2", inRow(x, 2), 0);
        x = Diagrams.ofAndPutIn(Diagrams.NOTHING, 3, Diagrams.TREFOIL);
        CHECKS.due("coefficients in row 0 of what is put in", inRow(x, 0), 0);
    }

    private static void changesNothing() {
        for (Twins twins : Twins.inSmallStates(CHECKS)) {
            for (int n : new int[] {-1, 0, 3, 12}) {
                twins.changesNothing("entry(" + n + ", 0, 0)", x -> x.entry(n, 0, 0));
                twins.changesNothing("entry(0, " + n + ", 1)", x -> x.entry(0, n, 1));
                twins.changesNothing("entry(0, 0, " + n + ")", x -> x.entry(0, 0, n));
            }
        }
    }
}
