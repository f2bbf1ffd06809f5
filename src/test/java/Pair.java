/** An object and the literal reading of the document, which are asked the same. */
final class Pair {
    private static final int[][] RANKS = {{-1, 2}, {0, 2}, {-1, 3}, {1, 3}, {2, 5}, {-4, 7}, {3, 97}, {3, 9}};

    private final Checks checks;
    private final String name;
    private final AlexanderMatrix tried = new AlexanderMatrix();
    private final Reference due = new Reference();

    Pair(Checks checks, String name) {
        this.checks = checks;
        this.name = name;
    }

    private void same(String call, long got, long want) {
        checks.due(name + ": " + call, got, want);
    }

    /** What check must answer. */
    int load(int[][] crossings, int circles) {
        for (int[] c : crossings) {
            same("crossing", tried.crossing(c[0], c[1], c[2], c[3], c[4]), due.crossing(c[0], c[1], c[2], c[3], c[4]));
        }
        int want = due.check(circles);
        same("check(" + circles + ")", tried.check(circles), want);
        return want;
    }

    void change(int k) {
        same("change(" + k + ")", tried.change(k) ? 1 : 0, due.change(k) ? 1 : 0);
    }

    void smooth(int k) {
        same("smooth(" + k + ")", tried.smooth(k) ? 1 : 0, due.smooth(k) ? 1 : 0);
    }

    /** Every answer about the diagram, with labels up to the one that is told. */
    void compare(int greatestLabel) {
        int crossings = (int) due.many(0);
        int arcs = (int) due.many(2);
        for (int what = 0; what <= 6; what++) {
            same("many(" + what + ")", tried.many(what), due.many(what));
        }
        for (int label = 0; label <= greatestLabel + 1; label++) {
            same("arc(" + label + ")", tried.arc(label), due.arc(label));
        }
        for (int arc = -1; arc <= arcs; arc++) {
            same("least(" + arc + ")", tried.least(arc), due.least(arc));
            for (int k = -1; k <= crossings; k++) {
                compareAt(k, arc, crossings);
            }
        }
        for (int e = -1; e <= crossings + 1; e++) {
            same("alexander(" + e + ")", tried.alexander(e), due.alexander(e));
        }
        for (int[] r : RANKS) {
            same("rank(" + r[0] + ", " + r[1] + ")", tried.rank(r[0], r[1]), due.rank(r[0], r[1]));
        }
    }

    private void compareAt(int k, int arc, int crossings) {
        for (int e = 0; e <= 1; e++) {
            same("entry(" + k + ", " + arc + ", " + e + ")", tried.entry(k, arc, e), due.entry(k, arc, e));
        }
        for (int e = 0; e <= crossings; e++) {
            same("minor(" + k + ", " + arc + ", " + e + ")", tried.minor(k, arc, e), due.minor(k, arc, e));
        }
    }
}
