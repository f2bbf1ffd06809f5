import java.util.ArrayList;
import java.util.HashSet;
import java.util.List;
import java.util.Set;

/** Diagrams for the tests: a crossing is its sign and its four labels. */
final class Diagrams {
    static final int[][] TREFOIL = {{1, 1, 5, 2, 4}, {1, 3, 1, 4, 6}, {1, 5, 3, 6, 2}};
    static final int[][] KINK = {{1, 1, 1, 2, 2}};
    /** One component lies wholly above the other one. */
    static final int[][] TWO_APART = {{1, 1, 4, 2, 3}, {-1, 2, 4, 1, 3}};
    static final int[][] NEGATIVE_KINK = {{-1, 1, 2, 2, 1}};
    /** The third rule is broken, and it alone. */
    static final int[][] NO_SPHERE = {{1, 1, 2, 1, 2}};
    static final int[][] NOTHING = {};

    private Diagrams() {
    }

    /**
     * The closure of a braid whose strands go upwards: i crosses the strands i and i + 1 with
     * the sign 1, -i with the sign -1. Strands without crossings are not in it.
     */
    static int[][] braid(int strands, int... word) {
        int[] current = new int[strands];
        for (int s = 0; s < strands; s++) {
            current[s] = s + 1;
        }
        int fresh = strands;
        List<int[]> crossings = new ArrayList<>();
        for (int letter : word) {
            int left = Math.abs(letter) - 1;
            int belowLeft = current[left];
            int belowRight = current[left + 1];
            int aboveLeft = ++fresh;
            int aboveRight = ++fresh;
            crossings.add(letter > 0
                    ? new int[] {1, belowRight, aboveRight, aboveLeft, belowLeft}
                    : new int[] {-1, belowLeft, belowRight, aboveRight, aboveLeft});
            current[left] = aboveLeft;
            current[left + 1] = aboveRight;
        }
        for (int[] crossing : crossings) {
            for (int q = 1; q <= 4; q++) {
                for (int s = 0; s < strands; s++) {
                    if (crossing[q] == current[s]) {
                        crossing[q] = s + 1;
                        break;
                    }
                }
            }
        }
        return crossings.toArray(new int[0][]);
    }

    static int[] power(int times, int... word) {
        int[] whole = new int[times * word.length];
        for (int i = 0; i < whole.length; i++) {
            whole[i] = word[i % word.length];
        }
        return whole;
    }

    /** One behind the other, with labels that are apart. */
    static int[][] beside(int[][]... parts) {
        List<int[]> crossings = new ArrayList<>();
        int base = 0;
        for (int[][] part : parts) {
            int greatest = base;
            for (int[] c : part) {
                int[] moved = {c[0], c[1] + base, c[2] + base, c[3] + base, c[4] + base};
                crossings.add(moved);
                greatest = Math.max(greatest, Math.max(Math.max(moved[1], moved[2]), Math.max(moved[3], moved[4])));
            }
            base = greatest;
        }
        return crossings.toArray(new int[0][]);
    }

    /** 12 crossings with 18 arcs: a closed arc has two crossings at least that it goes over. */
    static int[][] mostArcs() {
        return beside(TWO_APART, TWO_APART, TWO_APART, TWO_APART, TWO_APART, TWO_APART);
    }

    static int[][] renamed(int[][] crossings, int... names) {
        int[][] then = new int[crossings.length][];
        for (int k = 0; k < crossings.length; k++) {
            int[] c = crossings[k];
            then[k] = new int[] {c[0], names[c[1]], names[c[2]], names[c[3]], names[c[4]]};
        }
        return then;
    }

    static List<int[]> ordersOfFour() {
        List<int[]> orders = new ArrayList<>();
        for (int code = 0; code < 256; code++) {
            int[] order = {code & 3, code >> 2 & 3, code >> 4 & 3, code >> 6 & 3};
            if ((1 << order[0] | 1 << order[1] | 1 << order[2] | 1 << order[3]) == 15) {
                orders.add(order);
            }
        }
        return orders;
    }

    static int[][] inOrder(int[][] crossings, int... order) {
        int[][] then = new int[order.length][];
        for (int k = 0; k < order.length; k++) {
            then[k] = crossings[order[k]];
        }
        return then;
    }

    /** The component that an edge is on runs the other way. */
    static int[][] turned(int[][] crossings, int label) {
        Set<Integer> component = new HashSet<>();
        component.add(label);
        for (int i = 0; i < 2 * crossings.length; i++) {
            for (int[] c : crossings) {
                for (int q = 1; q <= 4; q++) {
                    if (component.contains(c[q])) {
                        component.add(c[q <= 2 ? q + 2 : q - 2]);
                    }
                }
            }
        }
        int[][] then = new int[crossings.length][];
        for (int k = 0; k < crossings.length; k++) {
            int[] c = crossings[k];
            boolean lower = component.contains(c[1]);
            int sign = lower == component.contains(c[2]) ? c[0] : -c[0];
            then[k] = lower ? new int[] {sign, c[3], c[4], c[1], c[2]} : new int[] {sign, c[1], c[2], c[3], c[4]};
        }
        return then;
    }

    static AlexanderMatrix ofAndPutIn(int[][] crossings, int circles, int[][] more) {
        AlexanderMatrix x = of(crossings, circles);
        putIn(x, more);
        return x;
    }

    static void putIn(AlexanderMatrix x, int[][] crossings) {
        for (int[] c : crossings) {
            x.crossing(c[0], c[1], c[2], c[3], c[4]);
        }
    }

    static int load(AlexanderMatrix x, int[][] crossings, int circles) {
        putIn(x, crossings);
        return x.check(circles);
    }

    static AlexanderMatrix of(int[][] crossings, int circles) {
        AlexanderMatrix x = new AlexanderMatrix();
        int broken = load(x, crossings, circles);
        if (broken != 0) {
            throw new IllegalStateException("no diagram: rule " + broken);
        }
        return x;
    }
}
