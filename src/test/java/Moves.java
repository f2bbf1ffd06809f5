import java.util.ArrayList;
import java.util.Collections;
import java.util.HashMap;
import java.util.List;
import java.util.Map;
import java.util.Random;

/** Other diagrams of the same link: moves by which its Alexander polynomial must stay what it is. */
final class Moves {
    private Moves() {
    }

    static int[] crossing(int sign, int lowerIn, int lowerOut, int upperIn, int upperOut) {
        return sign == 1
                ? new int[] {1, lowerIn, upperOut, lowerOut, upperIn}
                : new int[] {-1, lowerIn, upperIn, lowerOut, upperOut};
    }

    static int greatestLabel(List<int[]> row) {
        int greatest = 0;
        for (int[] c : row) {
            for (int q = 1; q <= 4; q++) {
                greatest = Math.max(greatest, c[q]);
            }
        }
        return greatest;
    }

    private static List<int[]> copy(List<int[]> row) {
        List<int[]> then = new ArrayList<>();
        for (int[] c : row) {
            then.add(c.clone());
        }
        return then;
    }

    /** Where the edge ends, it has another label from now on. */
    private static void renameEnd(List<int[]> row, int label, int other) {
        for (int[] c : row) {
            int upperIn = c[0] == 1 ? 4 : 2;
            if (c[1] == label) {
                c[1] = other;
            } else if (c[upperIn] == label) {
                c[upperIn] = other;
            }
        }
    }

    /** A loop in one edge; it goes below first or above first. */
    static List<int[]> withLoop(List<int[]> row, int edge, int sign, boolean belowFirst) {
        List<int[]> then = copy(row);
        int loop = greatestLabel(row) + 1;
        int end = loop + 1;
        renameEnd(then, edge, end);
        then.add(belowFirst ? crossing(sign, edge, loop, loop, end) : crossing(sign, loop, end, edge, loop));
        return then;
    }

    /** One edge is pushed over another one; null when they have no face in common on that side. */
    static List<int[]> withOverlap(List<int[]> row, int over, int under, int sign, boolean sameWay) {
        List<int[]> then = copy(row);
        int fresh = greatestLabel(row) + 1;
        renameEnd(then, over, fresh + 1);
        renameEnd(then, under, fresh + 3);
        int[] first = {under, fresh + 2};
        int[] second = {fresh + 2, fresh + 3};
        int[] atOne = sameWay ? first : second;
        int[] atOther = sameWay ? second : first;
        then.add(crossing(sign, atOne[0], atOne[1], over, fresh));
        then.add(crossing(-sign, atOther[0], atOther[1], fresh, fresh + 1));
        return onSpheres(then) ? then : null;
    }

    private static boolean onSpheres(List<int[]> row) {
        Reference reference = new Reference();
        for (int[] c : row) {
            reference.crossing(c[0], c[1], c[2], c[3], c[4]);
        }
        return reference.check(0) == 0;
    }

    /** Loops and overlaps at random, as long as there is room for them; then other labels, in another order. */
    static int[][] moved(int[][] diagram, int most, Random random) {
        List<int[]> row = copy(List.of(diagram));
        for (int tries = 0; tries < 40 && row.size() < most; tries++) {
            int edge = edge(row, random);
            int other = edge(row, random);
            int sign = random.nextBoolean() ? 1 : -1;
            List<int[]> then;
            if (random.nextInt(6) == 0 || row.size() + 2 > most) {
                then = withLoop(row, edge, sign, random.nextBoolean());
            } else {
                then = edge == other ? null : withOverlap(row, edge, other, sign, random.nextBoolean());
            }
            row = then == null ? row : then;
        }
        rename(row, random);
        Collections.shuffle(row, random);
        return row.toArray(new int[0][]);
    }

    private static int edge(List<int[]> row, Random random) {
        return row.get(random.nextInt(row.size()))[1 + random.nextInt(4)];
    }

    private static void rename(List<int[]> row, Random random) {
        Map<Integer, Integer> names = new HashMap<>();
        List<Integer> free = new ArrayList<>();
        for (int label = 1; label <= 40; label++) {
            free.add(label);
        }
        Collections.shuffle(free, random);
        for (int[] c : row) {
            for (int q = 1; q <= 4; q++) {
                c[q] = names.computeIfAbsent(c[q], l -> free.get(names.size()));
            }
        }
    }

    static int components(int[][] diagram) {
        List<Integer> left = new ArrayList<>();
        for (int[] c : diagram) {
            for (int q = 1; q <= 4; q++) {
                left.add(c[q]);
            }
        }
        int components = 0;
        while (!left.isEmpty()) {
            components++;
            List<Integer> reached = new ArrayList<>(List.of(left.get(0)));
            for (int i = 0; i < reached.size(); i++) {
                for (int[] c : diagram) {
                    for (int q = 1; q <= 4; q++) {
                        int opposite = c[q <= 2 ? q + 2 : q - 2];
                        if (c[q] == reached.get(i) && !reached.contains(opposite)) {
                            reached.add(opposite);
                        }
                    }
                }
            }
            left.removeAll(reached);
        }
        return components;
    }
}
