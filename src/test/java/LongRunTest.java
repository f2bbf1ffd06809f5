import java.util.Random;

/** "An object is used for at most 512 calls": it answers as is due up to the last one of them. */
public final class LongRunTest {
    private static final int CALLS = 512;
    private static final int RUNS = 300;
    private static final int[] CIRCLES = {0, 0, 0, 1, 8, 9, 10, -1};
    private static final int[] PRIMES = {2, 3, 5, 7, 97};

    private final Checks checks = new Checks("LongRunTest");
    private final Random random = new Random(512);
    private AlexanderMatrix tried;
    private Reference due;
    private int done;

    public static void main(String[] args) {
        new LongRunTest().all();
    }

    private void all() {
        checks.sentence("at most 512 calls: of one kind");
        onlyCrossings();
        onlyChanges();
        onlyMinors();
        checks.sentence("at most 512 calls: of all kinds");
        for (int run = 0; run < RUNS; run++) {
            begin();
            while (done < CALLS) {
                step(run);
            }
        }
        checks.end();
    }

    private void begin() {
        tried = new AlexanderMatrix();
        due = new Reference();
        done = 0;
    }

    private void same(String call, long got, long want) {
        done++;
        checks.due("call " + done + ": " + call, got, want);
    }

    private void crossing(int[] c) {
        same("crossing", tried.crossing(c[0], c[1], c[2], c[3], c[4]), due.crossing(c[0], c[1], c[2], c[3], c[4]));
    }

    private void check(int circles) {
        same("check(" + circles + ")", tried.check(circles), due.check(circles));
    }

    private void onlyCrossings() {
        begin();
        while (done < CALLS - 2) {
            crossing(new int[] {1, 1, 1, 2, 2});
        }
        same("many(6)", tried.many(6), 12);
        check(0);
    }

    private void onlyChanges() {
        begin();
        int[][] link = Diagrams.braid(2, Diagrams.power(12, 1));
        for (int[] c : link) {
            crossing(c);
        }
        check(0);
        for (int k = 0; done < CALLS - 1; k++) {
            same("change", tried.change(k % 13) ? 1 : 0, due.change(k % 13) ? 1 : 0);
        }
        same("many(5)", tried.many(5), due.many(5));
    }

    private void onlyMinors() {
        begin();
        for (int[] c : Diagrams.braid(3, Diagrams.power(6, 1, -2))) {
            crossing(c);
        }
        check(0);
        for (int i = 0; done < CALLS; i++) {
            int k = i % 13 - 1;
            int arc = i * 5 % 13;
            int e = i * 7 % 12;
            same("minor(" + k + ", " + arc + ", " + e + ")", tried.minor(k, arc, e), due.minor(k, arc, e));
        }
    }

    /** Some runs go through many small diagrams, others stay with large ones. */
    private void step(int run) {
        int kind = random.nextInt(run % 2 == 0 ? 12 : 60);
        if (kind == 0 && done + 14 <= CALLS) {
            diagram(run % 2 == 0 ? 4 : 12);
        } else {
            ask(random.nextInt(12));
        }
    }

    private void diagram(int most) {
        int strands = 2 + random.nextInt(3);
        int[] word = new int[random.nextInt(most + 1)];
        for (int i = 0; i < word.length; i++) {
            word[i] = (1 + random.nextInt(strands - 1)) * (random.nextBoolean() ? 1 : -1);
        }
        for (int[] c : Diagrams.braid(strands, word)) {
            crossing(c);
        }
        check(CIRCLES[random.nextInt(CIRCLES.length)]);
    }

    private void ask(int kind) {
        int k = random.nextInt((int) due.many(0) + 2) - 1;
        int arc = random.nextInt((int) due.many(2) + 2) - 1;
        int n = random.nextInt(13);
        int p = PRIMES[random.nextInt(PRIMES.length)];
        boolean seldom = random.nextInt(6) == 0;
        switch (kind) {
            case 0 -> same("many(" + n + ")", tried.many(n), due.many(n));
            case 1 -> same("many(3)", tried.many(3), due.many(3));
            case 2 -> same("arc(" + n + ")", tried.arc(n), due.arc(n));
            case 3 -> same("least(" + arc + ")", tried.least(arc), due.least(arc));
            case 4 -> same("entry(" + k + ", " + arc + ", 0)", tried.entry(k, arc, 0), due.entry(k, arc, 0));
            case 5 -> same("entry(" + k + ", " + arc + ", 1)", tried.entry(k, arc, 1), due.entry(k, arc, 1));
            case 6, 7 -> same("minor(" + k + ", " + arc + ", " + n + ")", tried.minor(k, arc, n), due.minor(k, arc, n));
            case 8 -> same("alexander(" + n + ")", tried.alexander(n), due.alexander(n));
            case 9 -> same("rank(" + n + ", " + p + ")", tried.rank(n, p), due.rank(n, p));
            case 10 -> same("change(" + k + ")", tried.change(k) ? 1 : 0, due.change(k) ? 1 : 0);
            default -> {
                if (seldom) {
                    same("smooth(" + k + ")", tried.smooth(k) ? 1 : 0, due.smooth(k) ? 1 : 0);
                }
            }
        }
    }
}
