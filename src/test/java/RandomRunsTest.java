import java.util.ArrayList;
import java.util.Collections;
import java.util.List;
import java.util.Random;

/** Runs of calls, always the same ones, answered as the literal reading of the document answers. */
public final class RandomRunsTest {
    private static final int RUNS = 1200;
    private static final int[] PRIMES = {2, 3, 5, 7, 11, 13, 41, 89, 97};
    private static final int[] FAR = {Integer.MIN_VALUE, Integer.MAX_VALUE, -2, -1, 10000, 1 << 16};

    private final Checks checks = new Checks("RandomRunsTest");
    private final Random random = new Random(20261115);
    private AlexanderMatrix tried;
    private Reference due;
    private int run;
    private int crossings;

    public static void main(String[] args) {
        new RandomRunsTest().all();
    }

    private void all() {
        for (run = 1; run <= RUNS; run++) {
            tried = new AlexanderMatrix();
            due = new Reference();
            int rounds = 1 + random.nextInt(3);
            for (int round = 0; round < rounds; round++) {
                putIn(run % 10 == 0 ? 12 : 6);
                ask();
                for (int i = random.nextInt(6); i > 0; i--) {
                    alter();
                    ask();
                }
            }
        }
        checks.end();
    }

    private void same(String call, long got, long want) {
        checks.due("run " + run + ": " + call, got, want);
    }

    private void putIn(int most) {
        List<int[]> rows = new ArrayList<>();
        int kind = random.nextInt(5);
        if (kind == 0) {
            matched(rows, 1 + random.nextInt(4));
        } else if (kind == 4) {
            braid(rows, 1 + random.nextInt(most));
            rows = new ArrayList<>(List.of(Moves.moved(rows.toArray(new int[0][]), most, random)));
        } else {
            for (int part = kind == 3 ? 2 : 1; part > 0; part--) {
                braid(rows, random.nextInt(most / (kind == 3 ? 2 : 1) + 1));
            }
            if (random.nextInt(8) == 0) {
                spoil(rows);
            }
        }
        relabel(rows);
        Collections.shuffle(rows, random);
        for (int[] c : rows) {
            same("crossing", tried.crossing(c[0], c[1], c[2], c[3], c[4]), due.crossing(c[0], c[1], c[2], c[3], c[4]));
            same("many(6)", tried.many(6), due.many(6));
        }
        int circles = random.nextInt(6) == 0 ? random.nextInt(13) - 1 : random.nextInt(8) == 0 ? 1 : 0;
        same("check(" + circles + ")", tried.check(circles), due.check(circles));
    }

    /** Places where strands go out are matched at random with those where they go in: often no sphere. */
    private void matched(List<int[]> rows, int n) {
        List<Integer> labels = new ArrayList<>();
        for (int label = 1; label <= 2 * n; label++) {
            labels.add(label);
        }
        Collections.shuffle(labels, random);
        for (int k = 0; k < n; k++) {
            int sign = random.nextBoolean() ? 1 : -1;
            int upperIn = labels.get(2 * k);
            int upperOut = 2 * k + 2;
            rows.add(new int[] {sign, labels.get(2 * k + 1), sign == 1 ? upperOut : upperIn, 2 * k + 1,
                    sign == 1 ? upperIn : upperOut});
        }
    }

    private void braid(List<int[]> rows, int letters) {
        int strands = 2 + random.nextInt(3);
        int[] word = new int[letters];
        for (int i = 0; i < letters; i++) {
            word[i] = (1 + random.nextInt(strands - 1)) * (random.nextBoolean() ? 1 : -1);
        }
        int base = 100 * rows.size();
        for (int[] c : Diagrams.braid(strands, word)) {
            rows.add(new int[] {c[0], c[1] + base, c[2] + base, c[3] + base, c[4] + base});
        }
    }

    private void spoil(List<int[]> rows) {
        if (!rows.isEmpty()) {
            int[] c = rows.get(random.nextInt(rows.size()));
            int[] d = rows.get(random.nextInt(rows.size()));
            int q = 1 + random.nextInt(4);
            int r = 1 + random.nextInt(4);
            int kept = c[q];
            c[q] = d[r];
            d[r] = random.nextBoolean() ? kept : d[r];
            c[0] = random.nextInt(3) == 0 ? -c[0] : c[0];
        }
    }

    private void relabel(List<int[]> rows) {
        List<Integer> labels = new ArrayList<>();
        for (int label = 1; label <= 9999; label++) {
            labels.add(label);
        }
        if (random.nextBoolean()) {
            Collections.shuffle(labels, random);
        }
        for (int[] c : rows) {
            for (int q = 1; q <= 4; q++) {
                c[q] = labels.get(c[q]);
            }
        }
    }

    private void alter() {
        int k = random.nextInt(15) == 0 ? far() : random.nextInt((int) due.many(0) + 1);
        if (random.nextInt(3) > 0) {
            same("change(" + k + ")", tried.change(k) ? 1 : 0, due.change(k) ? 1 : 0);
        } else {
            same("smooth(" + k + ")", tried.smooth(k) ? 1 : 0, due.smooth(k) ? 1 : 0);
        }
    }

    private int far() {
        return FAR[random.nextInt(FAR.length)];
    }

    private void ask() {
        for (int what = -1; what <= 7; what++) {
            same("many(" + what + ")", tried.many(what), due.many(what));
        }
        int arcs = (int) due.many(2);
        crossings = (int) due.many(0);
        for (int arc = -1; arc <= arcs; arc++) {
            same("least(" + arc + ")", tried.least(arc), due.least(arc));
            int label = due.least(arc);
            same("arc(" + label + ")", tried.arc(label), due.arc(label));
        }
        for (int i = 0; i < 20; i++) {
            int label = random.nextInt(4) == 0 ? random.nextInt(10001) : random.nextInt(30);
            same("arc(" + label + ")", tried.arc(label), due.arc(label));
        }
        for (int e = -1; e <= 26; e++) {
            same("alexander(" + e + ")", tried.alexander(e), due.alexander(e));
        }
        askEntries(arcs);
        askMinors(arcs);
        askRanks();
    }

    private void askEntries(int arcs) {
        for (int k = -1; k <= crossings; k++) {
            for (int arc = -1; arc <= arcs; arc++) {
                for (int e = -1; e <= 2; e++) {
                    same("entry(" + k + ", " + arc + ", " + e + ")", tried.entry(k, arc, e), due.entry(k, arc, e));
                }
            }
        }
    }

    private void askMinors(int arcs) {
        for (int i = 0; i < 6; i++) {
            int k = random.nextInt(crossings + 3) - 2;
            int arc = random.nextInt(arcs + 2) - 1;
            for (int e = -1; e <= 13; e++) {
                same("minor(" + k + ", " + arc + ", " + e + ")", tried.minor(k, arc, e), due.minor(k, arc, e));
            }
        }
    }

    private void askRanks() {
        for (int i = 0; i < 5; i++) {
            int p = random.nextInt(4) == 0 ? random.nextInt(110) - 5 : PRIMES[random.nextInt(PRIMES.length)];
            int t = random.nextInt(4) == 0 ? far() : random.nextInt(200) - 100;
            same("rank(" + t + ", " + p + ")", tried.rank(t, p), due.rank(t, p));
        }
    }
}
