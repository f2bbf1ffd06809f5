/** Promises 5 and 6 at their edges. */
public final class ArcBoundaryTest {
    private static final Checks CHECKS = new Checks("ArcBoundaryTest");
    private static final int[] NO_LABELS = {
        Integer.MIN_VALUE, -9999, -1, 0, 10000, 10001, 65537, Integer.MAX_VALUE};

    public static void main(String[] args) {
        CHECKS.sentence("-1 when there is no such edge");
        noSuchEdge();
        CHECKS.sentence("The number of the arc that an edge is on");
        leastAndGreatestLabel();
        CHECKS.sentence("0 of a circle");
        ofACircle();
        CHECKS.sentence("-1 when there is no such arc");
        noSuchArc();
        CHECKS.sentence("arc and least change nothing");
        changesNothing();
        CHECKS.end();
    }

    private static void noSuchEdge() {
        for (int circles = 0; circles <= 9; circles += 3) {
            AlexanderMatrix x = Diagrams.of(Diagrams.TREFOIL, circles);
            for (int label : NO_LABELS) {
                CHECKS.due("arc(" + label + ") with " + circles + " circles", x.arc(label), -1);
            }
            for (int label = 1; label <= 8; label++) {
                CHECKS.due("there is an edge " + label, x.arc(label) >= 0, label <= 6);
            }
        }
        AlexanderMatrix x = Diagrams.ofAndPutIn(Diagrams.KINK, 0, new int[][] {{1, 7, 7, 8, 8}});
        CHECKS.due("arc(7), put in alone", x.arc(7), -1);
        CHECKS.due("arc(2)", x.arc(2), 0);
        x.check(0);
        CHECKS.due("arc(7), of the diagram now", x.arc(7), 0);
        CHECKS.due("arc(2), no more", x.arc(2), -1);
        x.smooth(0);
        CHECKS.due("arc(7), a circle now", x.arc(7), -1);
        CHECKS.due("arc(8), a circle now", x.arc(8), -1);
        x = Diagrams.of(Diagrams.TREFOIL, 0);
        x.smooth(1);
        CHECKS.due("arc(3), which has become 1", x.arc(3), -1);
        CHECKS.due("arc(6), which has become 4", x.arc(6), -1);
        CHECKS.due("arc(1)", x.arc(1), 0);
        CHECKS.due("arc(4)", x.arc(4), 1);
    }

    private static void leastAndGreatestLabel() {
        AlexanderMatrix x = Diagrams.of(Diagrams.renamed(Diagrams.TREFOIL, 0, 9999, 9998, 1, 2, 9997, 3), 0);
        CHECKS.due("arc(1)", x.arc(1), 0);
        CHECKS.due("arc(9998)", x.arc(9998), 0);
        CHECKS.due("arc(2)", x.arc(2), 1);
        CHECKS.due("arc(9997)", x.arc(9997), 1);
        CHECKS.due("arc(3)", x.arc(3), 2);
        CHECKS.due("arc(9999)", x.arc(9999), 2);
        x = Diagrams.of(Diagrams.mostArcs(), 9);
        CHECKS.due("arc(1)", x.arc(1), 0);
        CHECKS.due("arc(24)", x.arc(24), 17);
    }

    private static void ofACircle() {
        for (int circles = 0; circles <= 9; circles++) {
            AlexanderMatrix x = Diagrams.of(Diagrams.TREFOIL, circles);
            CHECKS.due("least(2), the last one that is none", x.least(2), 4);
            for (int arc = 3; arc < 3 + circles; arc++) {
                CHECKS.due("least(" + arc + ")", x.least(arc), 0);
            }
            CHECKS.due("least of one too many", x.least(3 + circles), -1);
        }
        AlexanderMatrix x = Diagrams.of(Diagrams.KINK, 7);
        CHECKS.due("least(0)", x.least(0), 1);
        x.smooth(0);
        CHECKS.due("least(0)", x.least(0), 0);
        CHECKS.due("least(8)", x.least(8), 0);
        CHECKS.due("least(9)", x.least(9), -1);
    }

    private static void noSuchArc() {
        int[][][] diagrams = {Diagrams.NOTHING, Diagrams.KINK, Diagrams.TREFOIL, Diagrams.TWO_APART, Diagrams.mostArcs()};
        int[] arcs = {0, 1, 3, 3, 18};
        for (int i = 0; i < diagrams.length; i++) {
            for (int circles = 0; circles <= 9; circles += 9) {
                AlexanderMatrix x = Diagrams.of(diagrams[i], circles);
                int many = arcs[i] + circles;
                for (int arc = 0; arc < many; arc++) {
                    CHECKS.due("there is an arc " + arc, x.least(arc) >= 0, true);
                }
                for (int arc : new int[] {Integer.MIN_VALUE, -2, -1, many, many + 1, 33, 48, Integer.MAX_VALUE}) {
                    CHECKS.due("least(" + arc + ") of " + many, x.least(arc), -1);
                }
            }
        }
        AlexanderMatrix x = Diagrams.of(Diagrams.mostArcs(), 9);
        Diagrams.load(x, Diagrams.KINK, 0);
        CHECKS.due("least(0)", x.least(0), 1);
        CHECKS.due("least(1), of the diagram before", x.least(1), -1);
    }

    private static void changesNothing() {
        for (Twins twins : Twins.inSmallStates(CHECKS)) {
            for (int n : new int[] {-1, 0, 1, 2, 3, 5, 6, 7, 10000}) {
                twins.changesNothing("arc(" + n + ")", x -> x.arc(n));
                twins.changesNothing("least(" + n + ")", x -> x.least(n));
            }
        }
    }
}
