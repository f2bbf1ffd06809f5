import java.util.Random;

/** Any arguments in any state: nothing reaches the caller but an answer. */
public final class NeverThrowsTest {
    private static final int OBJECTS = 1500;
    private static final int CALLS = 512;
    private static final int[] ODD = {
        Integer.MIN_VALUE, Integer.MIN_VALUE + 1, -1000, -2, -1, 0, 1, 2, 3, 9, 10, 11, 12, 13, 23, 24, 32, 33, 47, 48,
        97, 101, 9999, 10000, Integer.MAX_VALUE - 1, Integer.MAX_VALUE};

    private final Random random = new Random(4);
    private long sum = 0;

    public static void main(String[] args) {
        Checks checks = new Checks("NeverThrowsTest");
        for (int object = 0; object < OBJECTS; object++) {
            checks.due("two objects with the same calls answer the same", run(object), run(object));
        }
        checks.end();
    }

    private static long run(int seed) {
        NeverThrowsTest test = new NeverThrowsTest();
        test.random.setSeed(seed);
        AlexanderMatrix x = new AlexanderMatrix();
        int done = 0;
        while (done < CALLS) {
            if (test.random.nextInt(20) == 0 && done < CALLS - 20) {
                done += test.diagram(x);
            } else {
                test.sum = 31 * test.sum + test.call(x);
                done++;
            }
        }
        return test.sum;
    }

    private int diagram(AlexanderMatrix x) {
        int[] word = new int[random.nextInt(13)];
        for (int i = 0; i < word.length; i++) {
            word[i] = (1 + random.nextInt(4)) * (random.nextBoolean() ? 1 : -1);
        }
        x.check(0);
        Diagrams.load(x, Diagrams.braid(5, word), random.nextInt(3) * random.nextInt(5));
        return word.length + 2;
    }

    private int odd() {
        return random.nextInt(3) == 0 ? ODD[random.nextInt(ODD.length)] : random.nextInt(14) - 1;
    }

    private long call(AlexanderMatrix x) {
        switch (random.nextInt(12)) {
            case 0: return x.crossing(random.nextBoolean() ? 1 : odd(), odd(), odd(), odd(), odd());
            case 1: return random.nextInt(3) == 0 ? x.check(odd()) : x.crossing(1, odd(), odd(), odd(), odd());
            case 2: return x.many(odd());
            case 3: return x.arc(odd());
            case 4: return x.least(odd());
            case 5: return x.entry(odd(), odd(), odd());
            case 6: return x.minor(odd(), odd(), odd());
            case 7: return x.alexander(odd());
            case 8: return x.rank(odd(), odd());
            case 9: return x.change(odd()) ? 1 : 0;
            case 10: return x.smooth(odd()) ? 1 : 0;
            default: return x.rank(odd(), 97);
        }
    }
}
