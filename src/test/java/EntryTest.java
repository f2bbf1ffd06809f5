/** Promise 7. */
public final class EntryTest {
    private static final Checks CHECKS = new Checks("EntryTest");

    public static void main(String[] args) {
        trefoil();
        changedTrefoil();
        kinks();
        noneSuch();
        CHECKS.end();
    }

    private static void trefoil() {
        AlexanderMatrix x = Diagrams.of(Diagrams.TREFOIL, 1);
        CHECKS.row(x, 0, 0, 0, -1, 1, 0);
        CHECKS.row(x, 0, 1, 1, 0, -1, 0);
        CHECKS.row(x, 1, 0, 1, 0, -1, 0);
        CHECKS.row(x, 1, 1, -1, 1, 0, 0);
        CHECKS.row(x, 2, 0, -1, 1, 0, 0);
        CHECKS.row(x, 2, 1, 0, -1, 1, 0);
    }

    /** Crossing 0 has the sign -1 then, and what stands at one arc is added in the other rows. */
    private static void changedTrefoil() {
        AlexanderMatrix x = Diagrams.of(Diagrams.TREFOIL, 0);
        x.change(0);
        CHECKS.row(x, 0, 0, 1, -1, 0);
        CHECKS.row(x, 0, 1, -1, 0, 1);
        CHECKS.row(x, 1, 0, 1, -1, 0);
        CHECKS.row(x, 1, 1, 0, 0, 0);
        CHECKS.row(x, 2, 0, 0, 0, 0);
        CHECKS.row(x, 2, 1, -1, 0, 1);
    }

    private static void kinks() {
        AlexanderMatrix x = Diagrams.of(Diagrams.KINK, 0);
        CHECKS.row(x, 0, 0, 0);
        CHECKS.row(x, 0, 1, 0);
        x = Diagrams.of(Diagrams.braid(2, -1), 0);
        CHECKS.row(x, 0, 0, 0);
        CHECKS.row(x, 0, 1, 0);
    }

    private static void noneSuch() {
        AlexanderMatrix x = Diagrams.of(Diagrams.TREFOIL, 0);
        for (int far : new int[] {-1, 3, 12, 100, Integer.MIN_VALUE, Integer.MAX_VALUE}) {
            for (int e = 0; e < 2; e++) {
                CHECKS.due("entry(" + far + ", 0, " + e + ")", x.entry(far, 0, e), 0);
                CHECKS.due("entry(0, " + far + ", " + e + ")", x.entry(0, far, e), 0);
            }
            CHECKS.due("entry(0, 0, " + far + ")", x.entry(0, 0, far), 0);
        }
        CHECKS.due("entry(0, 2, 2)", x.entry(0, 2, 2), 0);
        Diagrams.load(x, Diagrams.KINK, 0);
        CHECKS.due("entry(1, 0, 0) of the diagram before", x.entry(1, 0, 0), 0);
        CHECKS.due("entry(0, 1, 0) of the diagram before", x.entry(0, 1, 0), 0);
    }
}
