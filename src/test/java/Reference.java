import java.math.BigInteger;
import java.util.ArrayList;
import java.util.HashMap;
import java.util.HashSet;
import java.util.List;
import java.util.Map;
import java.util.Set;
import java.util.TreeMap;
import java.util.TreeSet;

/**
 * The document once more, as literally as can be and without any thought of speed: all minors,
 * a greatest common divisor of all of them, big numbers.
 */
final class Reference {
    private List<int[]> putIn = new ArrayList<>();
    private List<int[]> diagram = new ArrayList<>();
    private int circles = 0;
    private List<BigInteger> alexander = null;
    private final List<TreeSet<Integer>> arcs = new ArrayList<>();
    private int[][][] matrix = new int[0][0][2];
    private final Map<Long, List<BigInteger>> minors = new HashMap<>();

    int crossing(int sign, int... labels) {
        boolean good = (sign == 1 || sign == -1) && putIn.size() < 12;
        for (int label : labels) {
            good = good && label >= 1 && label <= 9999;
        }
        if (!good) {
            return -1;
        }
        putIn.add(new int[] {sign, labels[0], labels[1], labels[2], labels[3]});
        return putIn.size();
    }

    int check(int number) {
        if (number < 0 || number > 9) {
            return -1;
        }
        int broken = firstBroken();
        if (broken == 0) {
            diagram = putIn;
            circles = number;
            changed();
        }
        putIn = new ArrayList<>();
        return broken;
    }

    private static boolean goesIn(int[] crossing, int q) {
        return q == 0 || q == (crossing[0] == 1 ? 3 : 1);
    }

    private static int upperIn(int[] crossing) {
        return crossing[0] == 1 ? crossing[4] : crossing[2];
    }

    private static int upperOut(int[] crossing) {
        return crossing[0] == 1 ? crossing[2] : crossing[4];
    }

    private int firstBroken() {
        Map<Integer, List<int[]>> stands = new TreeMap<>();
        for (int k = 0; k < putIn.size(); k++) {
            for (int q = 0; q < 4; q++) {
                stands.computeIfAbsent(putIn.get(k)[q + 1], l -> new ArrayList<>()).add(new int[] {k, q});
            }
        }
        for (List<int[]> places : stands.values()) {
            if (places.size() != 2) {
                return 1;
            }
        }
        Map<Integer, int[]> begins = new HashMap<>();
        Map<Integer, int[]> ends = new HashMap<>();
        for (Map.Entry<Integer, List<int[]>> e : stands.entrySet()) {
            for (int[] place : e.getValue()) {
                (goesIn(putIn.get(place[0]), place[1]) ? ends : begins).put(e.getKey(), place);
            }
        }
        if (begins.size() != stands.size() || ends.size() != stands.size()) {
            return 2;
        }
        Set<Integer> left = new HashSet<>();
        for (int k = 0; k < putIn.size(); k++) {
            left.add(k);
        }
        while (!left.isEmpty()) {
            Set<Integer> piece = new HashSet<>();
            gather(left.iterator().next(), piece);
            left.removeAll(piece);
            if (faces(piece, begins, ends) != piece.size() + 2) {
                return 3;
            }
        }
        return 0;
    }

    private void gather(int k, Set<Integer> piece) {
        if (!piece.add(k)) {
            return;
        }
        for (int other = 0; other < putIn.size(); other++) {
            for (int q = 1; q <= 4; q++) {
                for (int r = 1; r <= 4; r++) {
                    if (putIn.get(other)[q] == putIn.get(k)[r]) {
                        gather(other, piece);
                    }
                }
            }
        }
    }

    /** A dart along an edge is the label, one against it the label below 0. */
    private int faces(Set<Integer> piece, Map<Integer, int[]> begins, Map<Integer, int[]> ends) {
        Set<Integer> darts = new HashSet<>();
        for (int k : piece) {
            for (int q = 1; q <= 4; q++) {
                darts.add(putIn.get(k)[q]);
                darts.add(-putIn.get(k)[q]);
            }
        }
        int faces = 0;
        while (!darts.isEmpty()) {
            faces++;
            int dart = darts.iterator().next();
            while (darts.remove(dart)) {
                int[] arrives = dart > 0 ? ends.get(dart) : begins.get(-dart);
                int q = Math.floorMod(arrives[1] - 1, 4);
                int label = putIn.get(arrives[0])[q + 1];
                dart = goesIn(putIn.get(arrives[0]), q) ? -label : label;
            }
        }
        return faces;
    }

    private void changed() {
        alexander = null;
        minors.clear();
        arcs.clear();
        TreeSet<Integer> labels = new TreeSet<>();
        for (int[] c : diagram) {
            for (int q = 1; q <= 4; q++) {
                labels.add(c[q]);
            }
        }
        while (!labels.isEmpty()) {
            TreeSet<Integer> arc = new TreeSet<>();
            grow(labels.first(), arc);
            labels.removeAll(arc);
            arcs.add(arc);
        }
        matrix = new int[diagram.size()][manyArcs()][2];
        for (int k = 0; k < diagram.size(); k++) {
            int[] c = diagram.get(k);
            int x = arc(c[1]);
            int y = arc(c[3]);
            int z = arc(upperIn(c));
            matrix[k][c[0] == 1 ? x : y][1] += 1;
            matrix[k][c[0] == 1 ? y : x][0] -= 1;
            matrix[k][z][0] += 1;
            matrix[k][z][1] -= 1;
        }
    }

    private void grow(int label, TreeSet<Integer> arc) {
        if (!arc.add(label)) {
            return;
        }
        for (int[] c : diagram) {
            if (upperIn(c) == label) {
                grow(upperOut(c), arc);
            }
            if (upperOut(c) == label) {
                grow(upperIn(c), arc);
            }
        }
    }

    private int manyArcs() {
        return arcs.size() + circles;
    }

    long many(int what) {
        switch (what) {
            case 0: return diagram.size();
            case 1: return circles;
            case 2: return manyArcs();
            case 3: return polynomial().size() - 1;
            case 4: return valueAt(1);
            case 5: return valueAt(-1);
            case 6: return putIn.size();
            default: return -1000;
        }
    }

    private long valueAt(long t) {
        BigInteger sum = BigInteger.ZERO;
        for (int e = 0; e < polynomial().size(); e++) {
            sum = sum.add(polynomial().get(e).multiply(BigInteger.valueOf(t).pow(e)));
        }
        return sum.longValueExact();
    }

    int arc(int label) {
        for (int i = 0; i < arcs.size(); i++) {
            if (arcs.get(i).contains(label)) {
                return i;
            }
        }
        return -1;
    }

    int least(int arc) {
        if (arc < 0 || arc >= manyArcs()) {
            return -1;
        }
        return arc < arcs.size() ? arcs.get(arc).first() : 0;
    }

    int entry(int crossing, int arc, int e) {
        boolean there = crossing >= 0 && crossing < diagram.size() && arc >= 0 && arc < manyArcs() && e >= 0 && e < 2;
        return there ? matrix[crossing][arc][e] : 0;
    }

    long minor(int crossing, int arc, int e) {
        if (crossing < -1 || crossing >= diagram.size() || arc < 0 || arc >= manyArcs()) {
            return 0;
        }
        int rows = ((1 << diagram.size()) - 1) & ~(crossing < 0 ? 0 : 1 << crossing);
        int columns = ((1 << manyArcs()) - 1) & ~(1 << arc);
        if (Integer.bitCount(rows) != Integer.bitCount(columns)) {
            return 0;
        }
        return coefficient(determinant(rows, columns), e);
    }

    long alexander(int e) {
        return coefficient(polynomial(), e);
    }

    private static long coefficient(List<BigInteger> p, int e) {
        return e >= 0 && e < p.size() ? p.get(e).longValueExact() : 0;
    }

    /** Expansion along the first row. */
    private List<BigInteger> determinant(int rows, int columns) {
        if (rows == 0) {
            return List.of(BigInteger.ONE);
        }
        long key = ((long) rows << 33) | columns;
        List<BigInteger> kept = minors.get(key);
        if (kept != null) {
            return kept;
        }
        int row = Integer.numberOfTrailingZeros(rows);
        List<BigInteger> sum = new ArrayList<>();
        int sign = 1;
        for (int column = 0; column < manyArcs(); column++) {
            if ((columns & (1 << column)) != 0) {
                int[] entry = matrix[row][column];
                if (entry[0] != 0 || entry[1] != 0) {
                    List<BigInteger> less = determinant(rows & ~(1 << row), columns & ~(1 << column));
                    sum = plus(sum, less, 0, BigInteger.valueOf((long) sign * entry[0]));
                    sum = plus(sum, less, 1, BigInteger.valueOf((long) sign * entry[1]));
                }
                sign = -sign;
            }
        }
        minors.put(key, sum);
        return sum;
    }

    private List<BigInteger> polynomial() {
        if (alexander == null) {
            List<BigInteger> g = new ArrayList<>();
            int order = manyArcs() - 1;
            for (int rows : subsets(diagram.size(), order)) {
                for (int columns : subsets(manyArcs(), order)) {
                    g = gcd(g, determinant(rows, columns));
                }
            }
            alexander = normal(g);
        }
        return alexander;
    }

    private static List<Integer> subsets(int of, int size) {
        List<Integer> found = new ArrayList<>();
        if (size < 0 || size > of) {
            return found;
        }
        for (int set = 0; set < 1 << of; set++) {
            if (Integer.bitCount(set) == size) {
                found.add(set);
            }
        }
        return found;
    }

    private static List<BigInteger> normal(List<BigInteger> p) {
        List<BigInteger> n = new ArrayList<>(p);
        while (!n.isEmpty() && n.get(0).signum() == 0) {
            n.remove(0);
        }
        return !n.isEmpty() && n.get(0).signum() < 0 ? plus(List.of(), n, 0, BigInteger.ONE.negate()) : n;
    }

    private static List<BigInteger> plus(List<BigInteger> p, List<BigInteger> q, int shift, BigInteger factor) {
        List<BigInteger> sum = new ArrayList<>(p);
        for (int e = 0; e < q.size(); e++) {
            while (sum.size() <= e + shift) {
                sum.add(BigInteger.ZERO);
            }
            sum.set(e + shift, sum.get(e + shift).add(q.get(e).multiply(factor)));
        }
        while (!sum.isEmpty() && sum.get(sum.size() - 1).signum() == 0) {
            sum.remove(sum.size() - 1);
        }
        return sum;
    }

    private static BigInteger content(List<BigInteger> p) {
        BigInteger g = BigInteger.ZERO;
        for (BigInteger c : p) {
            g = g.gcd(c);
        }
        return g;
    }

    private static List<BigInteger> divided(List<BigInteger> p, BigInteger d) {
        List<BigInteger> q = new ArrayList<>();
        for (BigInteger c : p) {
            q.add(c.divide(d));
        }
        return q;
    }

    /** The contents' divisor times that of the primitive parts, by pseudo-remainders. */
    private static List<BigInteger> gcd(List<BigInteger> a, List<BigInteger> b) {
        if (a.isEmpty() || b.isEmpty()) {
            return a.isEmpty() ? b : a;
        }
        BigInteger content = content(a).gcd(content(b));
        List<BigInteger> p = divided(a, content(a));
        List<BigInteger> q = divided(b, content(b));
        while (!q.isEmpty()) {
            List<BigInteger> r = p;
            while (r.size() >= q.size()) {
                BigInteger top = r.get(r.size() - 1);
                List<BigInteger> multiple = plus(List.of(), r, 0, q.get(q.size() - 1));
                r = plus(multiple, q, r.size() - q.size(), top.negate());
            }
            p = q;
            q = r.isEmpty() ? r : divided(r, content(r));
        }
        return plus(List.of(), p, 0, content);
    }

    int rank(int t, int p) {
        if (p < 2 || p > 97 || !BigInteger.valueOf(p).isProbablePrime(50)) {
            return -1;
        }
        BigInteger prime = BigInteger.valueOf(p);
        List<BigInteger[]> rows = new ArrayList<>();
        for (int[][] row : matrix) {
            BigInteger[] numbers = new BigInteger[row.length];
            for (int j = 0; j < row.length; j++) {
                BigInteger slope = BigInteger.valueOf(row[j][1]);
                numbers[j] = slope.multiply(BigInteger.valueOf(t)).add(BigInteger.valueOf(row[j][0])).mod(prime);
            }
            reduce(numbers, rows, prime);
        }
        return rows.size();
    }

    /** Each kept row begins with a 1 at a column where later ones were made 0. */
    private static void reduce(BigInteger[] numbers, List<BigInteger[]> kept, BigInteger prime) {
        for (BigInteger[] row : kept) {
            BigInteger factor = numbers[first(row)];
            for (int j = 0; j < row.length; j++) {
                numbers[j] = numbers[j].subtract(factor.multiply(row[j])).mod(prime);
            }
        }
        int at = first(numbers);
        if (at < numbers.length) {
            BigInteger inverse = numbers[at].modInverse(prime);
            for (int j = 0; j < numbers.length; j++) {
                numbers[j] = numbers[j].multiply(inverse).mod(prime);
            }
            kept.add(numbers);
        }
    }

    private static int first(BigInteger[] row) {
        int j = 0;
        while (j < row.length && row[j].signum() == 0) {
            j++;
        }
        return j;
    }

    boolean change(int k) {
        if (k < 0 || k >= diagram.size()) {
            return false;
        }
        int[] c = diagram.get(k);
        List<int[]> then = new ArrayList<>(diagram);
        then.set(k, c[0] == 1
                ? new int[] {-1, c[4], c[1], c[2], c[3]}
                : new int[] {1, c[2], c[3], c[4], c[1]});
        diagram = then;
        changed();
        return true;
    }

    boolean smooth(int k) {
        if (k < 0 || k >= diagram.size()) {
            return false;
        }
        List<int[]> then = new ArrayList<>();
        for (int[] c : diagram) {
            then.add(c.clone());
        }
        int[] gone = then.get(k);
        int more = 0;
        for (int round = 0; round < 2; round++) {
            int comes = round == 0 ? gone[1] : upperIn(gone);
            int goes = round == 0 ? upperOut(gone) : gone[3];
            if (comes == goes) {
                more++;
            }
            for (int[] c : then) {
                for (int q = 1; q <= 4; q++) {
                    if (c[q] == comes || c[q] == goes) {
                        c[q] = Math.min(comes, goes);
                    }
                }
            }
        }
        if (circles + more > 9) {
            return false;
        }
        then.remove(k);
        diagram = then;
        circles += more;
        changed();
        return true;
    }
}
