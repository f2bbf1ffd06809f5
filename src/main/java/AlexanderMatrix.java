import java.util.Arrays;

/**
 * The Alexander matrix of a link diagram, its minors, the Alexander polynomial,
 * and ranks of the matrix modulo primes.
 */
public final class AlexanderMatrix {
    private static final int MOST_CROSSINGS = 12;
    private static final int MOST_CIRCLES = 9;
    private static final int GREATEST_LABEL = 9999;
    private static final int GREATEST_PRIME = 97;
    private static final int PLACES = 4;
    private static final int MOST_PLACES = PLACES * MOST_CROSSINGS;
    /** A crossing has two edges of its own, so there are never more arcs than that and the circles. */
    private static final int MOST_ARCS = 2 * MOST_CROSSINGS + MOST_CIRCLES;
    /** The elimination multiplies two minors, each of an exponent up to the crossings' number. */
    private static final int MOST_COEFFICIENTS = 2 * MOST_CROSSINGS + 1;

    private final CrossingRow putIn;
    private final CrossingRow diagram;
    private final DiagramRules rules;
    private final ArcList arcs;
    private final EntryTable entries;
    private final MinorTaker minors;
    private final ModularRank ranks;
    private final Polynomial normal;
    private int circles;
    private boolean normalKnown;

    public AlexanderMatrix() {
        putIn = new CrossingRow();
        diagram = new CrossingRow();
        rules = new DiagramRules();
        arcs = new ArcList();
        entries = new EntryTable();
        minors = new MinorTaker();
        ranks = new ModularRank();
        normal = new Polynomial();
        circles = 0;
        normalKnown = false;
    }

    public int crossing(int sign, int l0, int l1, int l2, int l3) {
        if (sign != 1 && sign != -1) {
            return -1;
        }
        if (!isLabel(l0) || !isLabel(l1) || !isLabel(l2) || !isLabel(l3)) {
            return -1;
        }
        return putIn.append(sign, l0, l1, l2, l3);
    }

    public int check(int circles) {
        if (circles < 0 || circles > MOST_CIRCLES) {
            return -1;
        }
        int broken = rules.firstBroken(putIn);
        if (broken == 0) {
            diagram.copyFrom(putIn);
            this.circles = circles;
            readDiagram();
        }
        putIn.clear();
        return broken;
    }

    public long many(int what) {
        switch (what) {
            case 0:
                return diagram.size();
            case 1:
                return circles;
            case 2:
                return arcs.size();
            case 3:
                return normalForm().degree();
            case 4:
                return normalForm().valueAt(1);
            case 5:
                return normalForm().valueAt(-1);
            case 6:
                return putIn.size();
            default:
                return -1000;
        }
    }

    public int arc(int label) {
        return arcs.numberOfLabel(label);
    }

    public int least(int arc) {
        return arcs.leastLabel(arc);
    }

    public int entry(int crossing, int arc, int e) {
        if (e == 0) {
            return entries.constantAt(crossing, arc);
        }
        return e == 1 ? entries.slopeAt(crossing, arc) : 0;
    }

    public long minor(int crossing, int arc, int e) {
        if (e < 0 || e > MOST_CROSSINGS) {
            return 0;
        }
        return minors.take(entries, crossing, arc).coefficient(e);
    }

    public long alexander(int e) {
        return normalForm().coefficient(e);
    }

    public int rank(int t, int p) {
        if (!isSmallPrime(p)) {
            return -1;
        }
        return ranks.rankOf(entries, t, p);
    }

    public boolean change(int k) {
        if (!diagram.has(k)) {
            return false;
        }
        diagram.swapStrands(k);
        readDiagram();
        return true;
    }

    public boolean smooth(int k) {
        if (!diagram.has(k)) {
            return false;
        }
        int circlesThen = circles + diagram.closingsAt(k);
        if (circlesThen > MOST_CIRCLES) {
            return false;
        }
        diagram.joinStrands(k);
        circles = circlesThen;
        readDiagram();
        return true;
    }

    private void readDiagram() {
        arcs.read(diagram, circles);
        entries.read(diagram, arcs);
        minors.forget();
        normalKnown = false;
    }

    /**
     * One minor stands for all of them. Every row's entries add up to 0, so leaving out
     * another column changes a minor's sign at the most. On a sphere, each piece's rows,
     * multiplied by suitable powers of t and signs, add up to 0 too: of one piece,
     * leaving out another row changes a minor by such a factor at the most, and of several
     * pieces all the minors are 0. The normal form is free of these factors.
     */
    private Polynomial normalForm() {
        if (!normalKnown) {
            int leftOut = entries.rows() == entries.columns() ? 0 : -1;
            normal.setNormalFormOf(minors.take(entries, leftOut, 0));
            normalKnown = true;
        }
        return normal;
    }

    private static boolean isLabel(int number) {
        return number >= 1 && number <= GREATEST_LABEL;
    }

    private static boolean isSmallPrime(int p) {
        if (p < 2 || p > GREATEST_PRIME) {
            return false;
        }
        for (int divisor = 2; divisor * divisor <= p; divisor++) {
            if (p % divisor == 0) {
                return false;
            }
        }
        return true;
    }

    /** Crossings in a row; place q of crossing k has the number 4 k + q. */
    private static final class CrossingRow {
        private final int[] signs;
        private final int[] labels;
        private int count;

        CrossingRow() {
            signs = new int[MOST_CROSSINGS];
            labels = new int[MOST_PLACES];
            count = 0;
        }

        int size() {
            return count;
        }

        int places() {
            return PLACES * count;
        }

        boolean has(int k) {
            return k >= 0 && k < count;
        }

        void clear() {
            count = 0;
        }

        int append(int sign, int l0, int l1, int l2, int l3) {
            if (count >= MOST_CROSSINGS) {
                return -1;
            }
            write(count, sign, l0, l1, l2, l3);
            count++;
            return count;
        }

        void copyFrom(CrossingRow other) {
            System.arraycopy(other.signs, 0, signs, 0, MOST_CROSSINGS);
            System.arraycopy(other.labels, 0, labels, 0, MOST_PLACES);
            count = other.count;
        }

        int signOf(int k) {
            return has(k) ? signs[k] : 0;
        }

        int labelAt(int place) {
            return place >= 0 && place < places() ? labels[place] : 0;
        }

        int lowerIn(int k) {
            return PLACES * k;
        }

        int lowerOut(int k) {
            return PLACES * k + 2;
        }

        int upperIn(int k) {
            return PLACES * k + (signOf(k) == 1 ? 3 : 1);
        }

        int upperOut(int k) {
            return PLACES * k + (signOf(k) == 1 ? 1 : 3);
        }

        boolean goesIn(int place) {
            int k = place / PLACES;
            return place == lowerIn(k) || place == upperIn(k);
        }

        void swapStrands(int k) {
            if (!has(k)) {
                return;
            }
            int first = upperIn(k) - lowerIn(k);
            int base = lowerIn(k);
            write(k, -signs[k],
                    labelAt(base + first % PLACES),
                    labelAt(base + (first + 1) % PLACES),
                    labelAt(base + (first + 2) % PLACES),
                    labelAt(base + (first + 3) % PLACES));
        }

        /** How many edges would close upon themselves if the strands were joined here. */
        int closingsAt(int k) {
            int closings = 0;
            if (labelAt(lowerIn(k)) == labelAt(upperOut(k))) {
                closings++;
            }
            if (labelAt(upperIn(k)) == labelAt(lowerOut(k))) {
                closings++;
            }
            return closings;
        }

        void joinStrands(int k) {
            if (!has(k)) {
                return;
            }
            makeOne(labelAt(lowerIn(k)), labelAt(upperOut(k)));
            makeOne(labelAt(upperIn(k)), labelAt(lowerOut(k)));
            remove(k);
        }

        private void makeOne(int label, int other) {
            int lesser = Math.min(label, other);
            int greater = Math.max(label, other);
            for (int place = 0; place < MOST_PLACES; place++) {
                if (labels[place] == greater) {
                    labels[place] = lesser;
                }
            }
        }

        private void remove(int k) {
            for (int next = k + 1; next < count; next++) {
                int base = PLACES * next;
                write(next - 1, signOf(next), labelAt(base), labelAt(base + 1), labelAt(base + 2), labelAt(base + 3));
            }
            count--;
        }

        private void write(int k, int sign, int l0, int l1, int l2, int l3) {
            if (k < 0 || k >= MOST_CROSSINGS) {
                return;
            }
            int base = PLACES * k;
            signs[k] = sign;
            labels[base] = l0;
            labels[base + 1] = l1;
            labels[base + 2] = l2;
            labels[base + 3] = l3;
        }
    }

    /** The three rules that make a row of crossings a diagram. */
    private static final class DiagramRules {
        private final int[] partners;
        private final int[] pieces;
        private final int[] surplus;
        private final boolean[] seen;

        DiagramRules() {
            partners = new int[MOST_PLACES];
            pieces = new int[MOST_CROSSINGS];
            surplus = new int[MOST_CROSSINGS];
            seen = new boolean[MOST_PLACES];
        }

        int firstBroken(CrossingRow row) {
            int places = Math.min(row.places(), MOST_PLACES);
            if (!findPartners(row, places)) {
                return 1;
            }
            if (!partnersAreEdges(row, places)) {
                return 2;
            }
            findPieces(places);
            return piecesAreSpheres(places) ? 0 : 3;
        }

        private boolean findPartners(CrossingRow row, int places) {
            for (int place = 0; place < places; place++) {
                int found = 0;
                for (int other = 0; other < places; other++) {
                    if (other != place && row.labelAt(other) == row.labelAt(place)) {
                        partners[place] = other;
                        found++;
                    }
                }
                if (found != 1) {
                    return false;
                }
            }
            return true;
        }

        private boolean partnersAreEdges(CrossingRow row, int places) {
            for (int place = 0; place < places; place++) {
                if (row.goesIn(place) == row.goesIn(partners[place])) {
                    return false;
                }
            }
            return true;
        }

        /** Afterwards, crossings of one piece bear the same number. */
        private void findPieces(int places) {
            for (int k = 0; k < MOST_CROSSINGS; k++) {
                pieces[k] = k;
            }
            for (int place = 0; place < places; place++) {
                int piece = pieceAt(place);
                int other = pieceAt(partners[place]);
                for (int k = 0; k < MOST_CROSSINGS; k++) {
                    if (pieces[k] == other) {
                        pieces[k] = piece;
                    }
                }
            }
        }

        private int pieceAt(int place) {
            int k = place / PLACES;
            return k >= 0 && k < MOST_CROSSINGS ? pieces[k] : -1;
        }

        private boolean piecesAreSpheres(int places) {
            Arrays.fill(surplus, 0);
            countFaces(places);
            for (int place = 0; place < places; place += PLACES) {
                addSurplus(place, -1);
            }
            for (int place = 0; place < places; place += PLACES) {
                int piece = pieceAt(place);
                if (piece < 0 || piece >= MOST_CROSSINGS || surplus[piece] != 2) {
                    return false;
                }
            }
            return true;
        }

        private void countFaces(int places) {
            for (int place = 0; place < places; place++) {
                seen[place] = false;
            }
            for (int place = 0; place < places; place++) {
                if (!seen[place]) {
                    goRound(place);
                    addSurplus(place, 1);
                }
            }
        }

        /** A dart is told by the place where it arrives. */
        private void goRound(int start) {
            int place = start;
            for (int step = 0; step < MOST_PLACES; step++) {
                if (place < 0 || place >= MOST_PLACES || seen[place]) {
                    return;
                }
                seen[place] = true;
                int first = place - place % PLACES;
                place = partners[first + (place + PLACES - 1) % PLACES];
            }
        }

        private void addSurplus(int place, int number) {
            int piece = pieceAt(place);
            if (piece >= 0 && piece < MOST_CROSSINGS) {
                surplus[piece] += number;
            }
        }
    }

    /** The arcs of a diagram, each told by its least label, and 0 for each circle behind them. */
    private static final class ArcList {
        private final int[] labels;
        private final int[] leastAt;
        private final int[] leasts;
        private int places;
        private int count;

        ArcList() {
            labels = new int[MOST_PLACES];
            leastAt = new int[MOST_PLACES];
            leasts = new int[MOST_ARCS];
            places = 0;
            count = 0;
        }

        void read(CrossingRow row, int circles) {
            places = Math.min(row.places(), MOST_PLACES);
            for (int place = 0; place < places; place++) {
                labels[place] = row.labelAt(place);
                leastAt[place] = labels[place];
            }
            for (int k = 0; k < row.size(); k++) {
                joinOver(row.upperIn(k), row.upperOut(k));
            }
            count = 0;
            for (int place = 0; place < places; place++) {
                insert(leastAt[place]);
            }
            for (int circle = 0; circle < circles && count < MOST_ARCS; circle++) {
                leasts[count] = 0;
                count++;
            }
        }

        int size() {
            return count;
        }

        int leastLabel(int number) {
            return number >= 0 && number < count ? leasts[number] : -1;
        }

        int numberOfLabel(int label) {
            for (int place = 0; place < places; place++) {
                if (labels[place] == label) {
                    return numberAt(place);
                }
            }
            return -1;
        }

        int numberAt(int place) {
            if (place < 0 || place >= places) {
                return -1;
            }
            for (int number = 0; number < count; number++) {
                if (leasts[number] == leastAt[place]) {
                    return number;
                }
            }
            return -1;
        }

        private void joinOver(int in, int out) {
            if (in < 0 || in >= places || out < 0 || out >= places) {
                return;
            }
            int lesser = Math.min(leastAt[in], leastAt[out]);
            int greater = Math.max(leastAt[in], leastAt[out]);
            for (int place = 0; place < places; place++) {
                if (leastAt[place] == greater) {
                    leastAt[place] = lesser;
                }
            }
        }

        private void insert(int label) {
            int position = 0;
            while (position < count && leasts[position] < label) {
                position++;
            }
            boolean there = position < count && leasts[position] == label;
            if (there || count >= MOST_ARCS) {
                return;
            }
            for (int number = count; number > position; number--) {
                leasts[number] = leasts[number - 1];
            }
            leasts[position] = label;
            count++;
        }
    }

    /** The matrix: each entry is a constant and a slope, the coefficients of 1 and of t. */
    private static final class EntryTable {
        private final int[][] constants;
        private final int[][] slopes;
        private int rows;
        private int columns;

        EntryTable() {
            constants = new int[MOST_CROSSINGS][MOST_ARCS];
            slopes = new int[MOST_CROSSINGS][MOST_ARCS];
            rows = 0;
            columns = 0;
        }

        void read(CrossingRow row, ArcList arcs) {
            rows = Math.min(row.size(), MOST_CROSSINGS);
            columns = Math.min(arcs.size(), MOST_ARCS);
            for (int k = 0; k < rows; k++) {
                Arrays.fill(constants[k], 0);
                Arrays.fill(slopes[k], 0);
                int in = arcs.numberAt(row.lowerIn(k));
                int out = arcs.numberAt(row.lowerOut(k));
                boolean positive = row.signOf(k) == 1;
                add(k, positive ? in : out, 0, 1);
                add(k, positive ? out : in, -1, 0);
                add(k, arcs.numberAt(row.upperIn(k)), 1, -1);
            }
        }

        int rows() {
            return rows;
        }

        int columns() {
            return columns;
        }

        boolean has(int row, int column) {
            return row >= 0 && row < rows && column >= 0 && column < columns;
        }

        int constantAt(int row, int column) {
            return has(row, column) ? constants[row][column] : 0;
        }

        int slopeAt(int row, int column) {
            return has(row, column) ? slopes[row][column] : 0;
        }

        private void add(int row, int column, int constant, int slope) {
            if (has(row, column)) {
                constants[row][column] += constant;
                slopes[row][column] += slope;
            }
        }
    }

    /** Minors with at most one row and just one column left out; the last one is kept. */
    private static final class MinorTaker {
        private final Determinant determinant;
        private final Polynomial last;
        private int lastRow;
        private int lastColumn;
        private boolean known;

        MinorTaker() {
            determinant = new Determinant();
            last = new Polynomial();
            lastRow = 0;
            lastColumn = 0;
            known = false;
        }

        void forget() {
            known = false;
        }

        /** Row -1: no row is left out. */
        Polynomial take(EntryTable entries, int row, int column) {
            if (known && row == lastRow && column == lastColumn) {
                return last;
            }
            lastRow = row;
            lastColumn = column;
            known = true;
            last.setZero();
            int order = row < 0 ? entries.rows() : entries.rows() - 1;
            boolean rowIsGood = row >= -1 && row < entries.rows();
            boolean columnIsGood = column >= 0 && column < entries.columns();
            if (rowIsGood && columnIsGood && order == entries.columns() - 1) {
                fillCells(entries, order);
                determinant.evaluate(order, last);
            }
            return last;
        }

        private void fillCells(EntryTable entries, int order) {
            for (int i = 0; i < order; i++) {
                int row = lastRow >= 0 && i >= lastRow ? i + 1 : i;
                for (int j = 0; j < order; j++) {
                    int column = j >= lastColumn ? j + 1 : j;
                    determinant.put(i, j, entries.constantAt(row, column), entries.slopeAt(row, column));
                }
            }
        }
    }

    /**
     * Determinants by elimination without fractions (Bareiss): after each step the cells are
     * minors of the matrix, so each division comes out even. A row's coefficients add up to
     * 4 at the most without their signs, a minor's of order 12 to 4^12: nothing goes over a long.
     */
    private static final class Determinant {
        private final Polynomial[] cells;
        private final Polynomial product;
        private final Polynomial one;

        Determinant() {
            cells = new Polynomial[MOST_CROSSINGS * MOST_CROSSINGS];
            for (int i = 0; i < MOST_CROSSINGS * MOST_CROSSINGS; i++) {
                cells[i] = new Polynomial();
            }
            product = new Polynomial();
            one = new Polynomial();
            one.setLinear(1, 0);
        }

        void put(int row, int column, int constant, int slope) {
            if (isInside(row) && isInside(column)) {
                cell(row, column).setLinear(constant, slope);
            }
        }

        void evaluate(int order, Polynomial result) {
            result.setZero();
            if (order < 0 || order > MOST_CROSSINGS) {
                return;
            }
            boolean odd = false;
            Polynomial previous = one;
            for (int step = 0; step < order; step++) {
                int pivot = findPivot(step, order);
                if (pivot < 0) {
                    return;
                }
                if (pivot != step) {
                    exchangeRows(pivot, step);
                    odd = !odd;
                }
                clearBelow(step, order, previous);
                previous = cell(step, step);
            }
            result.setMultiple(previous, odd ? -1 : 1);
        }

        private int findPivot(int step, int order) {
            for (int row = step; row < order; row++) {
                if (!cell(row, step).isZero()) {
                    return row;
                }
            }
            return -1;
        }

        private void exchangeRows(int row, int other) {
            if (!isInside(row) || !isInside(other)) {
                return;
            }
            for (int column = 0; column < MOST_CROSSINGS; column++) {
                int place = row * MOST_CROSSINGS + column;
                int otherPlace = other * MOST_CROSSINGS + column;
                Polynomial kept = cells[place];
                cells[place] = cells[otherPlace];
                cells[otherPlace] = kept;
            }
        }

        private void clearBelow(int step, int order, Polynomial previous) {
            Polynomial pivot = cell(step, step);
            for (int row = step + 1; row < order; row++) {
                Polynomial left = cell(row, step);
                for (int column = step + 1; column < order; column++) {
                    Polynomial here = cell(row, column);
                    product.setZero();
                    product.addProduct(pivot, here, 1);
                    product.addProduct(left, cell(step, column), -1);
                    here.setQuotient(product, previous);
                }
            }
        }

        private Polynomial cell(int row, int column) {
            return isInside(row) && isInside(column) ? cells[row * MOST_CROSSINGS + column] : one;
        }

        private static boolean isInside(int index) {
            return index >= 0 && index < MOST_CROSSINGS;
        }
    }

    /** All coefficients above the degree are 0; the degree of 0 is -1. */
    private static final class Polynomial {
        private final long[] coefficients;
        private int degree;

        Polynomial() {
            coefficients = new long[MOST_COEFFICIENTS];
            degree = -1;
        }

        int degree() {
            return degree;
        }

        boolean isZero() {
            return degree < 0;
        }

        long coefficient(int e) {
            return e >= 0 && e < MOST_COEFFICIENTS ? coefficients[e] : 0;
        }

        long valueAt(int t) {
            long value = 0;
            for (int e = degree; e >= 0; e--) {
                value = value * t + coefficient(e);
            }
            return value;
        }

        void setZero() {
            for (int e = 0; e <= degree && e < MOST_COEFFICIENTS; e++) {
                coefficients[e] = 0;
            }
            degree = -1;
        }

        void setLinear(long constant, long slope) {
            setZero();
            coefficients[0] = constant;
            coefficients[1] = slope;
            lowerDegree(1);
        }

        void setMultiple(Polynomial other, long factor) {
            setZero();
            addShifted(other, 0, factor);
            lowerDegree(degree);
        }

        void addProduct(Polynomial a, Polynomial b, long factor) {
            for (int e = 0; e <= a.degree; e++) {
                addShifted(b, e, factor * a.coefficient(e));
            }
            lowerDegree(degree);
        }

        /** The dividend is used up; the divisor must divide it. */
        void setQuotient(Polynomial dividend, Polynomial divisor) {
            setZero();
            long leading = divisor.coefficient(divisor.degree);
            if (leading == 0) {
                return;
            }
            int highest = dividend.degree - divisor.degree;
            for (int e = highest; e >= 0; e--) {
                long quotient = dividend.coefficient(e + divisor.degree) / leading;
                dividend.addShifted(divisor, e, -quotient);
                if (e < MOST_COEFFICIENTS) {
                    coefficients[e] = quotient;
                }
            }
            lowerDegree(highest);
        }

        void setNormalFormOf(Polynomial other) {
            int lowest = 0;
            while (lowest < other.degree && other.coefficient(lowest) == 0) {
                lowest++;
            }
            setZero();
            addShifted(other, -lowest, other.coefficient(lowest) < 0 ? -1 : 1);
            lowerDegree(degree);
        }

        /** Leaves a degree that may be too high. */
        private void addShifted(Polynomial other, int shift, long factor) {
            if (factor == 0 || other.degree < 0) {
                return;
            }
            int first = shift < 0 ? -shift : 0;
            int room = MOST_COEFFICIENTS - 1 - shift;
            int last = other.degree < room ? other.degree : room;
            for (int e = first; e <= last; e++) {
                coefficients[e + shift] += factor * other.coefficients[e];
            }
            degree = last + shift > degree ? last + shift : degree;
        }

        private void lowerDegree(int bound) {
            int e = bound < MOST_COEFFICIENTS ? bound : MOST_COEFFICIENTS - 1;
            while (e >= 0 && coefficients[e] == 0) {
                e--;
            }
            degree = e >= 0 ? e : -1;
        }
    }

    /** Elimination modulo a prime. */
    private static final class ModularRank {
        private final int[][] cells;

        ModularRank() {
            cells = new int[MOST_CROSSINGS][MOST_ARCS];
        }

        int rankOf(EntryTable entries, int t, int p) {
            if (p < 2 || p > GREATEST_PRIME) {
                return -1;
            }
            int rows = Math.min(entries.rows(), MOST_CROSSINGS);
            int columns = Math.min(entries.columns(), MOST_ARCS);
            int value = Math.floorMod(t, p);
            for (int row = 0; row < rows; row++) {
                for (int column = 0; column < columns; column++) {
                    int entry = entries.constantAt(row, column) + entries.slopeAt(row, column) * value;
                    cells[row][column] = Math.floorMod(entry, p);
                }
            }
            int found = 0;
            for (int column = 0; column < columns && found < rows; column++) {
                int pivot = findPivot(found, rows, column);
                if (pivot >= 0) {
                    exchangeRows(found, pivot);
                    clearBelow(found, rows, column, p);
                    found++;
                }
            }
            return found;
        }

        private int findPivot(int from, int rows, int column) {
            for (int row = from; row < rows; row++) {
                if (cells[row][column] != 0) {
                    return row;
                }
            }
            return -1;
        }

        private void exchangeRows(int row, int other) {
            int[] kept = cells[row];
            cells[row] = cells[other];
            cells[other] = kept;
        }

        private void clearBelow(int step, int rows, int column, int p) {
            int[] upper = cells[step];
            for (int row = step + 1; row < rows; row++) {
                int[] lower = cells[row];
                int factor = lower[column];
                for (int i = column; factor != 0 && i < MOST_ARCS; i++) {
                    lower[i] = Math.floorMod(lower[i] * upper[column] - upper[i] * factor, p);
                }
            }
        }
    }
}
