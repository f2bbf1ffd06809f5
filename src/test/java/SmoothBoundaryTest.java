/** Promise 12 at its edges. */
public final class SmoothBoundaryTest {
    private static final Checks CHECKS = new Checks("SmoothBoundaryTest");
    private static final int[] FAR = {Integer.MIN_VALUE, -2, -1, 12, 13, 65536, Integer.MAX_VALUE};
    /** At crossing 1, the edge that comes in below closes upon itself. */
    private static final int[][] CLOSES_BELOW = Diagrams.braid(3, 1, 2);
    /** At crossing 1, the edge that comes in above closes upon itself. */
    private static final int[][] CLOSES_ABOVE = Diagrams.braid(3, 1, -2);

    public static void main(String[] args) {
        CHECKS.sentence("Crossing k goes: the first and the last one, down to none");
        goes();
        CHECKS.sentence("two edges that become one have the lesser label");
        lesserLabel();
        CHECKS.sentence("one that closes upon itself is a circle more");
        circles();
        CHECKS.sentence("false when there is none");
        noneSuch();
        CHECKS.sentence("or there would be more than 9 circles");
        moreThanNine();
        CHECKS.sentence("false: nothing else has changed");
        changesNothing();
        CHECKS.end();
    }

    private static void goes() {
        for (int n = 1; n <= 12; n++) {
            int[][] row = Diagrams.braid(2, Diagrams.power(n, 1));
            for (int k = -1; k <= n; k++) {
                AlexanderMatrix x = Diagrams.of(row, 0);
                boolean there = k >= 0 && k < n;
                CHECKS.due("smooth(" + k + ") of " + n, x.smooth(k), there);
                CHECKS.due("many(0)", x.many(0), there ? n - 1 : n);
                CHECKS.due("many(1)", x.many(1), there && n == 1 ? 2 : 0);
            }
        }
        AlexanderMatrix x = Diagrams.of(Diagrams.braid(2, Diagrams.power(12, 1)), 0);
        for (int left = 11; left > 0; left--) {
            CHECKS.due("smooth(0)", x.smooth(0), true);
            CHECKS.due("many(0)", x.many(0), left);
            CHECKS.due("many(3)", x.many(3), left - 1);
        }
        CHECKS.due("the last one", x.smooth(0), true);
        CHECKS.due("many(0)", x.many(0), 0);
        CHECKS.due("many(1)", x.many(1), 2);
        CHECKS.due("smooth(0) of none", x.smooth(0), false);
        CHECKS.due("many(1)", x.many(1), 2);
    }

    /** At crossing 1, edge 3 goes on by 1, and 6 by 4: under names that make either one the lesser. */
    private static void lesserLabel() {
        int[][] names = {
            {0, 1, 2, 3, 4, 5, 6}, {0, 3, 2, 1, 4, 5, 6}, {0, 1, 2, 3, 6, 5, 4}, {0, 3, 2, 1, 6, 5, 4},
            {0, 9999, 5000, 1, 9998, 5001, 9997}};
        for (int[] to : names) {
            AlexanderMatrix x = Diagrams.of(Diagrams.renamed(Diagrams.TREFOIL, to), 0);
            CHECKS.due("smooth(1)", x.smooth(1), true);
            CHECKS.due("the lesser of 3 and 1 is there", x.arc(Math.min(to[3], to[1])) >= 0, true);
            CHECKS.due("the greater of 3 and 1", x.arc(Math.max(to[3], to[1])), -1);
            CHECKS.due("the lesser of 6 and 4 is there", x.arc(Math.min(to[6], to[4])) >= 0, true);
            CHECKS.due("the greater of 6 and 4", x.arc(Math.max(to[6], to[4])), -1);
            CHECKS.due("2 stays", x.arc(to[2]) >= 0, true);
            CHECKS.due("5 stays", x.arc(to[5]) >= 0, true);
            CHECKS.due("2 is on one arc with it", x.arc(to[2]), x.arc(Math.min(to[3], to[1])));
            CHECKS.due("5 is on one arc with it", x.arc(to[5]), x.arc(Math.min(to[6], to[4])));
            CHECKS.due("many(2)", x.many(2), 2);
            CHECKS.alexander("Hopf's link", x, 1, -1);
        }
    }

    private static void circlesAfter(int[][] diagram, int k, int want) {
        for (int before = 0; before + want <= 9; before++) {
            AlexanderMatrix x = Diagrams.of(diagram, before);
            long arcs = x.many(2);
            CHECKS.due("smooth(" + k + ")", x.smooth(k), true);
            CHECKS.due("many(1)", x.many(1), before + want);
            CHECKS.due("many(0)", x.many(0), diagram.length - 1);
            CHECKS.due("least of the last arc", x.least((int) x.many(2) - 1) == 0, before + want > 0);
            CHECKS.due("arcs, one less for a crossing", x.many(2) <= arcs + want, true);
        }
    }

    /** None, one on either side, both. */
    private static void circles() {
        circlesAfter(Diagrams.TREFOIL, 0, 0);
        circlesAfter(CLOSES_BELOW, 1, 1);
        circlesAfter(CLOSES_ABOVE, 1, 1);
        circlesAfter(Diagrams.KINK, 0, 2);
        circlesAfter(Diagrams.NEGATIVE_KINK, 0, 2);
        AlexanderMatrix x = Diagrams.of(CLOSES_BELOW, 0);
        CHECKS.alexander("unknot", x, 1);
        x.smooth(1);
        CHECKS.due("many(2): a kink and a circle", x.many(2), 2);
        CHECKS.alexander("apart", x);
        x.smooth(0);
        CHECKS.due("many(1)", x.many(1), 3);
        CHECKS.due("many(2)", x.many(2), 3);
        x = Diagrams.of(Diagrams.TREFOIL, 0);
        CHECKS.due("two components are no circles: smooth(0)", x.smooth(0), true);
        CHECKS.due("many(1)", x.many(1), 0);
    }

    private static void noneSuch() {
        for (int k : FAR) {
            CHECKS.due("smooth(" + k + ") of a new object", new AlexanderMatrix().smooth(k), false);
            CHECKS.due("smooth(" + k + ") of circles", Diagrams.of(Diagrams.NOTHING, 9).smooth(k), false);
            CHECKS.due("smooth(" + k + ") of a trefoil", Diagrams.of(Diagrams.TREFOIL, 0).smooth(k), false);
            CHECKS.due("smooth(" + k + ") of 12",
                    Diagrams.of(Diagrams.braid(2, Diagrams.power(12, 1)), 0).smooth(k), false);
        }
        CHECKS.due("smooth(0) of a new object", new AlexanderMatrix().smooth(0), false);
        AlexanderMatrix x = Diagrams.ofAndPutIn(Diagrams.NOTHING, 0, Diagrams.TREFOIL);
        CHECKS.due("smooth(0) of what is put in", x.smooth(0), false);
        x.check(0);
        CHECKS.due("smooth(2)", x.smooth(2), true);
        CHECKS.due("smooth(2) of two that are left", x.smooth(2), false);
        CHECKS.due("smooth(1) of two that are left", x.smooth(1), true);
    }

    private static void atMost(int[][] diagram, int k, int closing) {
        for (int before = 0; before <= 9; before++) {
            boolean good = before + closing <= 9;
            AlexanderMatrix x = Diagrams.of(diagram, before);
            CHECKS.due("smooth(" + k + ") with " + before + " circles", x.smooth(k), good);
            CHECKS.due("many(1)", x.many(1), good ? before + closing : before);
            CHECKS.due("many(0)", x.many(0), good ? diagram.length - 1 : diagram.length);
        }
    }

    private static void moreThanNine() {
        atMost(Diagrams.TREFOIL, 0, 0);
        atMost(Diagrams.TREFOIL, 2, 0);
        atMost(CLOSES_BELOW, 1, 1);
        atMost(CLOSES_ABOVE, 1, 1);
        atMost(Diagrams.KINK, 0, 2);
        atMost(Diagrams.NEGATIVE_KINK, 0, 2);
        int[][] kinks = Diagrams.beside(
                Diagrams.KINK, Diagrams.NEGATIVE_KINK, Diagrams.KINK, Diagrams.NEGATIVE_KINK, Diagrams.KINK);
        AlexanderMatrix x = Diagrams.of(kinks, 0);
        for (int n = 1; n <= 4; n++) {
            CHECKS.due("smooth(0)", x.smooth(0), true);
            CHECKS.due("many(1)", x.many(1), 2 * n);
        }
        CHECKS.due("smooth(0) of the fifth kink", x.smooth(0), false);
        CHECKS.due("many(0)", x.many(0), 1);
        CHECKS.due("many(1)", x.many(1), 8);
        CHECKS.due("arc(9)", x.arc(9), 0);
        CHECKS.due("arc(10)", x.arc(10), 0);
        CHECKS.due("change(0) of it", x.change(0), true);
        CHECKS.due("smooth(0) of it again", x.smooth(0), false);
    }

    private static void changesNothing() {
        for (Twins twins : Twins.inSmallStates(CHECKS)) {
            for (int k : new int[] {Integer.MIN_VALUE, -1, 3, 12, Integer.MAX_VALUE}) {
                twins.changesNothing("smooth(" + k + ")", x -> x.smooth(k) ? 1 : 0, 0);
            }
        }
        for (Twins twins : Twins.inFullStates(CHECKS)) {
            twins.changesNothing("smooth(-1)", x -> x.smooth(-1) ? 1 : 0, 0);
            twins.changesNothing("smooth(12)", x -> x.smooth(12) ? 1 : 0, 0);
        }
        refused(Diagrams.KINK, 8, 0);
        refused(Diagrams.KINK, 9, 0);
        refused(Diagrams.NEGATIVE_KINK, 8, 0);
        refused(CLOSES_BELOW, 9, 1);
        refused(CLOSES_ABOVE, 9, 1);
        refused(Diagrams.beside(Diagrams.KINK, Diagrams.TREFOIL), 8, 0);
        refused(Diagrams.beside(Diagrams.TREFOIL, Diagrams.KINK), 8, 3);
    }

    private static void refused(int[][] diagram, int circles, int k) {
        new Twins(CHECKS, () -> Diagrams.ofAndPutIn(diagram, circles, Diagrams.TREFOIL))
                .changesNothing("smooth(" + k + ") with " + circles + " circles", x -> x.smooth(k) ? 1 : 0, 0);
    }
}
