import java.util.Arrays;

/** Not some rows of crossings but all small ones, answered as the literal reading of the document answers. */
public final class EveryRowTest {
    private static final Checks CHECKS = new Checks("EveryRowTest");
    private static final int[] DIAGRAMS = new int[4];

    public static void main(String[] args) {
        CHECKS.sentence("A row of crossings is a DIAGRAM when: every row of one crossing or two with labels up to 4");
        everyLabelling(1);
        everyLabelling(2);
        CHECKS.sentence("every diagram of up to 3 crossings, and what change and smooth make of it");
        for (int n = 1; n <= 3; n++) {
            everyMatching(n);
            CHECKS.due("some rows of " + n + " are diagrams", DIAGRAMS[n] > 0, true);
        }
        CHECKS.end();
    }

    private static void everyLabelling(int n) {
        int[][] row = new int[n][5];
        for (int code = 0; code < 1 << 9 * n; code++) {
            int rest = code;
            for (int[] c : row) {
                c[0] = (rest & 1) == 0 ? 1 : -1;
                for (int q = 1; q <= 4; q++) {
                    c[q] = 1 + (rest >> 2 * q - 1 & 3);
                }
                rest >>= 9;
            }
            new Pair(CHECKS, Arrays.deepToString(row)).load(row, 0);
        }
    }

    private static void everyMatching(int n) {
        match(n, new int[2 * n], 0, 0);
    }

    /** Which of the labels that go out goes in at each of the places, in every way. */
    private static void match(int n, int[] in, int filled, int used) {
        if (filled == in.length) {
            for (int signs = 0; signs < 1 << n; signs++) {
                compare(row(n, in, signs));
            }
            return;
        }
        for (int label = 1; label <= in.length; label++) {
            if ((used & 1 << label) == 0) {
                in[filled] = label;
                match(n, in, filled + 1, used | 1 << label);
            }
        }
    }

    private static int[][] row(int n, int[] in, int signs) {
        int[][] row = new int[n][];
        for (int k = 0; k < n; k++) {
            int sign = (signs & 1 << k) == 0 ? 1 : -1;
            row[k] = Moves.crossing(sign, in[2 * k], 2 * k + 1, in[2 * k + 1], 2 * k + 2);
        }
        return row;
    }

    private static void compare(int[][] row) {
        Pair pair = new Pair(CHECKS, Arrays.deepToString(row));
        if (pair.load(row, 0) != 0) {
            return;
        }
        DIAGRAMS[row.length]++;
        pair.compare(2 * row.length);
        for (int k = 0; k < row.length; k++) {
            Pair changed = new Pair(CHECKS, Arrays.deepToString(row));
            changed.load(row, 0);
            changed.change(k);
            changed.compare(2 * row.length);
            Pair smoothed = new Pair(CHECKS, Arrays.deepToString(row));
            smoothed.load(row, 1);
            smoothed.smooth(k);
            smoothed.compare(2 * row.length);
        }
    }
}
