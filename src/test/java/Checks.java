/** Counts the answers that are not as due, and ends the test by them. */
final class Checks {
    private final String test;
    private int asked = 0;
    private int wrong = 0;
    private int sentences = 0;
    private int askedBefore = 0;
    private String sentence = "";

    Checks(String test) {
        this.test = test;
    }

    /** What follows tests this sentence of the document; a sentence that nothing follows is a fault. */
    void sentence(String words) {
        closeSentence();
        sentence = words;
        sentences++;
        askedBefore = asked;
    }

    private void closeSentence() {
        if (!sentence.isEmpty() && asked == askedBefore) {
            wrong++;
            System.out.println(test + ": nothing was asked about \"" + sentence + "\"");
        }
    }

    void due(String call, long got, long want) {
        asked++;
        if (got != want) {
            wrong++;
            String about = sentence.isEmpty() ? "" : " (" + sentence + ")";
            System.out.println(test + ": " + call + " answered " + got + ", due is " + want + about);
        }
    }

    void due(String call, boolean got, boolean want) {
        due(call, got ? 1 : 0, want ? 1 : 0);
    }

    void alexander(String name, AlexanderMatrix x, long... want) {
        due(name + " many(3)", x.many(3), want.length - 1);
        due(name + " alexander(-1)", x.alexander(-1), 0);
        for (int e = 0; e < 30; e++) {
            due(name + " alexander(" + e + ")", x.alexander(e), e < want.length ? want[e] : 0);
        }
    }

    void minor(AlexanderMatrix x, int crossing, int arc, long... want) {
        for (int e = -1; e < 30; e++) {
            long due = e >= 0 && e < want.length ? want[e] : 0;
            due("minor(" + crossing + ", " + arc + ", " + e + ")", x.minor(crossing, arc, e), due);
        }
    }

    void row(AlexanderMatrix x, int crossing, int e, int... want) {
        for (int arc = 0; arc < want.length; arc++) {
            due("entry(" + crossing + ", " + arc + ", " + e + ")", x.entry(crossing, arc, e), want[arc]);
        }
    }

    void end() {
        closeSentence();
        String about = sentences == 0 ? "" : " to " + sentences + " sentences of the document";
        System.out.println(test + ": " + asked + " answers" + about + ", " + wrong + " of them not as due");
        if (asked == 0 || wrong != 0) {
            System.exit(1);
        }
    }
}
