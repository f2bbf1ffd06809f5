import java.util.ArrayList;
import java.util.List;

/** Diagrams for the tests: a crossing is its sign and its four labels. */
final class Diagrams {
    static final int[][] TREFOIL = {{1, 1, 5, 2, 4}, {1, 3, 1, 4, 6}, {1, 5, 3, 6, 2}};
    static final int[][] KINK = {{1, 1, 1, 2, 2}};
    /** One component lies wholly above the other one. */
    static final int[][] TWO_APART = {{1, 1, 4, 2, 3}, {-1, 2, 4, 1, 3}};

    private Diagrams() {
    }

    /**
     * The closure of a braid whose strands go upwards: i crosses the strands i and i + 1 with
     * the sign 1, -i with the sign -1. Strands without crossings are not in it.
     */
    static int[][] braid(int strands, int... word) {
        int[] current = new int[strands];
        for (int s = 0; s < strands; s++) {
            current[s] = s + 1;
        }
        int fresh = strands;
        List<int[]> crossings = new ArrayList<>();
        for (int letter : word) {
            int left = Math.abs(letter) - 1;
            int belowLeft = current[left];
            int belowRight = current[left + 1];
            int aboveLeft = ++fresh;
            int aboveRight = ++fresh;
            crossings.add(letter > 0
                    ? new int[] {1, belowRight, aboveRight, aboveLeft, belowLeft}
                    : new int[] {-1, belowLeft, belowRight, aboveRight, aboveLeft});
            current[left] = aboveLeft;
            current[left + 1] = aboveRight;
        }
        for (int[] crossing : crossings) {
            for (int q = 1; q <= 4; q++) {
                for (int s = 0; s < strands; s++) {
                    if (crossing[q] == current[s]) {
                        crossing[q] = s + 1;
                        break;
                    }
                }
            }
        }
        return crossings.toArray(new int[0][]);
    }

    static int[] power(int times, int... word) {
        int[] whole = new int[times * word.length];
        for (int i = 0; i < whole.length; i++) {
            whole[i] = word[i % word.length];
        }
        return whole;
    }

    static void putIn(AlexanderMatrix x, int[][] crossings) {
        for (int[] c : crossings) {
            x.crossing(c[0], c[1], c[2], c[3], c[4]);
        }
    }

    static int load(AlexanderMatrix x, int[][] crossings, int circles) {
        putIn(x, crossings);
        return x.check(circles);
    }

    static AlexanderMatrix of(int[][] crossings, int circles) {
        AlexanderMatrix x = new AlexanderMatrix();
        int broken = load(x, crossings, circles);
        if (broken != 0) {
            throw new IllegalStateException("no diagram: rule " + broken);
        }
        return x;
    }
}
