/** Counts the answers that are not as due, and ends the test by them. */
final class Checks {
    private final String test;
    private int asked = 0;
    private int wrong = 0;

    Checks(String test) {
        this.test = test;
    }

    void due(String call, long got, long want) {
        asked++;
        if (got != want) {
            wrong++;
            System.out.println(test + ": " + call + " answered " + got + ", due is " + want);
        }
    }

    void due(String call, boolean got, boolean want) {
        due(call, got ? 1 : 0, want ? 1 : 0);
    }

    void alexander(String name, AlexanderMatrix x, long... want) {
        due(name + " many(3)", x.many(3), want.length - 1);
        due(name + " alexander(-1)", x.alexander(-1), 0);
        for (int e = 0; e < 30; e++) {
            due(name + " alexander(" + e + ")", x.alexander(e), e < want.length ? want[e] : 0);
        }
    }

    void minor(AlexanderMatrix x, int crossing, int arc, long... want) {
        for (int e = -1; e < 30; e++) {
            long due = e >= 0 && e < want.length ? want[e] : 0;
            due("minor(" + crossing + ", " + arc + ", " + e + ")", x.minor(crossing, arc, e), due);
        }
    }

    void row(AlexanderMatrix x, int crossing, int e, int... want) {
        for (int arc = 0; arc < want.length; arc++) {
            due("entry(" + crossing + ", " + arc + ", " + e + ")", x.entry(crossing, arc, e), want[arc]);
        }
    }

    void end() {
        System.out.println(test + ": " + asked + " answers, " + wrong + " of them not as due");
        if (asked == 0 || wrong != 0) {
            System.exit(1);
        }
    }
}
