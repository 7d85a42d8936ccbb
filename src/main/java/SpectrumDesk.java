import java.util.Arrays;

/** Symmetric matrices of whole numbers and their eigenvalues, exactly; README.md says how it works. */
public final class SpectrumDesk {
    public static final int NONE = -1;
    public static final int LARGE = -2;

    private static final int MOST_ROWS = 6;
    private static final int MOST_VALUE = 1000000;
    private static final int MOST_DATA_ROWS = 100;
    private static final int MOST_DATA_VALUE = 1000;
    private static final int FINEST_GRID = 30;

    private final int[][] matrix;
    private final int[] given;
    private final Sums sums;
    private final Spectrum spectrum;
    private final Printer printer;
    private int n;
    private boolean stale;

    public SpectrumDesk() {
        matrix = new int[MOST_ROWS][MOST_ROWS];
        given = new int[MOST_ROWS];
        sums = new Sums();
        spectrum = new Spectrum();
        printer = new Printer();
        n = 1;
        stale = true;
    }

    public void make(int n) throws IllegalArgumentException {
        if (n < 1 || n > MOST_ROWS) {
            throw new IllegalArgumentException("a matrix has 1 to 6 rows");
        }
        this.n = n;
        for (int i = 0; i < n; i++) {
            Arrays.fill(matrix[i], 0);
        }
        sums.clear();
        stale = true;
    }

    public void put(int row, int column, int v) throws IndexOutOfBoundsException, IllegalArgumentException {
        if (!isIndex(row) || !isIndex(column)) {
            throw new IndexOutOfBoundsException("no such row or column");
        }
        if (isTooLarge(v, MOST_VALUE)) {
            throw new IllegalArgumentException("the number is too large");
        }
        matrix[row][column] = v;
        matrix[column][row] = v;
        stale = true;
    }

    public int at(int row, int column) throws IndexOutOfBoundsException {
        if (!isIndex(row) || !isIndex(column)) {
            throw new IndexOutOfBoundsException("no such row or column");
        }
        return matrix[row][column];
    }

    public int size(int what) {
        if (what == 0) {
            return n;
        }
        return what == 1 ? sums.rows : NONE;
    }

    public int data(int a, int b, int c, int d, int e, int f) {
        if (sums.rows >= MOST_DATA_ROWS) {
            return NONE;
        }
        given[0] = a;
        given[1] = b;
        given[2] = c;
        given[3] = d;
        given[4] = e;
        given[5] = f;
        for (int i = 0; i < n; i++) {
            if (isTooLarge(given[i], MOST_DATA_VALUE)) {
                return NONE;
            }
        }
        sums.take(given, n);
        return sums.rows;
    }

    public int spread() {
        for (int i = 0; i < n; i++) {
            for (int j = 0; j < n; j++) {
                if (isTooLarge(sums.spreadOf(i, j), MOST_VALUE)) {
                    return LARGE;
                }
            }
        }
        for (int i = 0; i < n; i++) {
            for (int j = 0; j < n; j++) {
                matrix[i][j] = (int) sums.spreadOf(i, j);
            }
        }
        stale = true;
        return 0;
    }

    public int shift(int v) {
        for (int i = 0; i < n; i++) {
            if (isTooLarge((long) matrix[i][i] + v, MOST_VALUE)) {
                return LARGE;
            }
        }
        for (int i = 0; i < n; i++) {
            matrix[i][i] += v;
        }
        stale = true;
        return 0;
    }

    public int characteristic(int k) {
        if (k < 0 || k > n) {
            return NONE;
        }
        printer.print(upToDate().blocks[n].c[k]);
        return printer.length;
    }

    public int character(int i) {
        if (i < 0 || i >= printer.length) {
            return NONE;
        }
        return printer.text[i];
    }

    public int count(int k, long top, long bottom, int way) throws IllegalArgumentException {
        if (k < 1 || k > n) {
            throw new IllegalArgumentException("no such first rows and columns");
        }
        if (way < 0 || way > 2) {
            throw new IllegalArgumentException("no such way to count");
        }
        if (bottom <= 0) {
            throw new IllegalArgumentException("the bottom of a fraction is above 0");
        }
        Polynomial moved = upToDate().movedBlock(k, top, bottom);
        if (way == 0) {
            return moved.rootsBelow();
        }
        return way == 1 ? moved.rootsAtZero() : moved.rootsAbove();
    }

    public long cell(int i, int w) throws IndexOutOfBoundsException, IllegalArgumentException {
        if (!isIndex(i)) {
            throw new IndexOutOfBoundsException("no such eigenvalue");
        }
        if (w < 0 || w > FINEST_GRID) {
            throw new IllegalArgumentException("no such grid");
        }
        return upToDate().finestCell(i) >> (FINEST_GRID - w);
    }

    public int multiplicity(int i) throws IndexOutOfBoundsException {
        if (!isIndex(i)) {
            throw new IndexOutOfBoundsException("no such eigenvalue");
        }
        Spectrum now = upToDate();
        now.findRepeated();
        return now.howManySame(i);
    }

    public int distinct() {
        Spectrum now = upToDate();
        now.findRepeated();
        return now.howManyDifferent();
    }

    public boolean whole(int i) throws IndexOutOfBoundsException {
        if (!isIndex(i)) {
            throw new IndexOutOfBoundsException("no such eigenvalue");
        }
        return upToDate().isWhole(i);
    }

    public int apart() {
        Spectrum now = upToDate();
        now.findRepeated();
        for (int w = 0; w <= FINEST_GRID; w++) {
            if (now.cellsTaken(w) == now.howManyDifferent()) {
                return w;
            }
        }
        return NONE;
    }

    public int check() {
        Spectrum now = upToDate();
        return now.traceFits() && now.blocksInterlace() ? 1 : 0;
    }

    private boolean isIndex(int i) {
        return i >= 0 && i < n;
    }

    private static boolean isTooLarge(long v, long most) {
        return v > most || v < -most;
    }

    /** The spectrum is worked out when it is asked for, so that changes to the matrix cost nothing. */
    private Spectrum upToDate() {
        if (stale) {
            spectrum.read(matrix, n);
            stale = false;
        }
        return spectrum;
    }

    /** The data: their sums are all that the spread needs, so no row is kept. */
    private static final class Sums {
        final int[] single;
        final int[][] paired;
        int rows;

        Sums() {
            single = new int[MOST_ROWS];
            paired = new int[MOST_ROWS][MOST_ROWS];
        }

        void clear() {
            rows = 0;
            Arrays.fill(single, 0);
            for (int i = 0; i < MOST_ROWS; i++) {
                Arrays.fill(paired[i], 0);
            }
        }

        void take(int[] row, int n) {
            rows++;
            for (int i = 0; i < n; i++) {
                single[i] += row[i];
                for (int j = 0; j < n; j++) {
                    paired[i][j] += row[i] * row[j];
                }
            }
        }

        long spreadOf(int i, int j) {
            return (long) rows * paired[i][j] - (long) single[i] * single[j];
        }
    }

    /** What was printed latest. */
    private static final class Printer {
        private static final int MOST_DIGITS = 60;

        final char[] text;
        final int[] digits;
        final int[] rest;
        int length;

        Printer() {
            text = new char[MOST_DIGITS + 1];
            digits = new int[MOST_DIGITS];
            rest = new int[Limbs.FOR_COEFFICIENT];
        }

        void print(int[] number) {
            boolean negative = Limbs.sign(number, number.length) < 0;
            Arrays.fill(rest, 0);
            Limbs.addTimes(rest, number, negative ? -1 : 1, 0, rest.length);
            int many = takeDigits();
            length = 0;
            if (negative) {
                text[length++] = '-';
            }
            for (int i = many - 1; i >= 0; i--) {
                text[length++] = (char) ('0' + digits[i]);
            }
        }

        private int takeDigits() {
            for (int i = 0; i < MOST_DIGITS; i++) {
                digits[i] = Limbs.takeLastDigit(rest);
                if (Limbs.sign(rest, rest.length) == 0) {
                    return i + 1;
                }
            }
            return MOST_DIGITS;
        }
    }

    /**
     * Whole numbers of a fixed width: limbs of 30 bits, the least one first, in two's complement.
     * What is too wide on the way wraps around and does no harm as long as the last answer fits.
     */
    private static final class Limbs {
        static final int BITS = 30;
        static final int MASK = (1 << BITS) - 1;
        static final int HALF = 1 << (BITS - 1);
        static final long BASE = 1L << BITS;

        /** A characteristic number of six rows: below 2^(6 * 23 + 5). */
        static final int FOR_COEFFICIENT = 6;
        /** A cell's edge in the finest grid taken from six eigenvalues: below 2^(6 * 55 + 5). */
        static final int FOR_EDGE = 12;
        /** Any fraction taken from six eigenvalues, or a cell's edge after 42 splits: below 2^(6 * 96 + 5). */
        static final int FOR_FRACTION = 20;
        /** The last step of Euclid's algorithm before it is divided: below 2^(54 * 24 + 23). */
        static final int FOR_EUCLID = 45;

        static void assign(int[] a, int v) {
            Arrays.fill(a, v < 0 ? MASK : 0);
            a[0] = v & MASK;
        }

        static void copy(int[] to, int[] from, int limbs) {
            System.arraycopy(from, 0, to, 0, limbs);
        }

        /** The same number with more limbs, or with fewer if it fits. */
        static void widen(int[] to, int limbs, int[] from, int given) {
            int common = Math.min(limbs, given);
            System.arraycopy(from, 0, to, 0, common);
            if (limbs > common) {
                Arrays.fill(to, common, limbs, from[common - 1] >= HALF ? MASK : 0);
            }
        }

        static int sign(int[] a, int limbs) {
            if (a[limbs - 1] >= HALF) {
                return -1;
            }
            for (int i = limbs - 1; i >= 0; i--) {
                if (a[i] != 0) {
                    return 1;
                }
            }
            return 0;
        }

        /** Adds b * digit * BASE^offset to a; a digit is at most BASE in size. */
        static void addTimes(int[] a, int[] b, long digit, int offset, int limbs) {
            if (digit == 0) {
                return;
            }
            long carry = 0;
            for (int i = offset; i < limbs; i++) {
                carry += a[i] + b[i - offset] * digit;
                a[i] = (int) (carry & MASK);
                carry >>= BITS;
            }
        }

        /** Digits from -HALF to HALF: small numbers below 0 then have few of them. */
        static void addLongTimes(int[] a, int[] b, long v, int limbs) {
            long rest = v;
            for (int i = 0; i < 3; i++) {
                long digit = rest & MASK;
                rest >>= BITS;
                if (digit > HALF) {
                    digit -= BASE;
                    rest++;
                }
                addTimes(a, b, digit, i, limbs);
            }
        }

        /** Adds b * c to a, or takes it away where factor is -1. */
        static void addProduct(int[] a, int[] b, int[] c, int factor, int limbs) {
            int carry = 0;
            for (int i = 0; i < limbs; i++) {
                long digit = (long) c[i] + carry;
                carry = 0;
                if (digit > HALF) {
                    digit -= BASE;
                    carry = 1;
                }
                addTimes(a, b, factor * digit, i, limbs);
            }
        }

        static int takeLastDigit(int[] a) {
            long rest = 0;
            for (int i = a.length - 1; i >= 0; i--) {
                rest = rest << BITS | a[i];
                a[i] = (int) (rest / 10);
                rest %= 10;
            }
            return (int) rest;
        }

        static int zeroBitsAtEnd(int[] a, int limbs) {
            for (int i = 0; i < limbs; i++) {
                if (a[i] != 0) {
                    return i * BITS + Integer.bitCount((a[i] & -a[i]) - 1);
                }
            }
            return 0;
        }

        static void halve(int[] a, int times, int limbs) {
            int skip = times / BITS;
            int bits = times % BITS;
            int fill = a[limbs - 1] >= HALF ? MASK : 0;
            for (int i = 0; i < limbs; i++) {
                long low = i + skip < limbs ? a[i + skip] : fill;
                long high = i + skip + 1 < limbs ? a[i + skip + 1] : fill;
                a[i] = (int) ((high << BITS | low) >> bits & MASK);
            }
        }

        /** Divides a, which b divides, by the odd b: from the last limb on, as nothing is left over. */
        static void divideByOdd(int[] a, int[] b, int limbs) {
            int inverse = b[0];
            for (int i = 0; i < 4; i++) {
                inverse *= 2 - b[0] * inverse;
            }
            for (int i = 0; i < limbs; i++) {
                int digit = a[i] * inverse & MASK;
                addTimes(a, b, -digit, i, limbs);
                a[i] = digit;
            }
        }
    }

    /** A polynomial whose zeros are all real and whose first number is above 0. */
    private static final class Polynomial {
        final int[][] c;
        final int[] spare;
        int degree;
        int limbs;

        Polynomial(int most) {
            c = new int[MOST_ROWS + 1][most];
            spare = new int[most];
            limbs = most;
        }

        void load(Polynomial from, int limbs) {
            this.limbs = limbs;
            degree = from.degree;
            for (int k = 0; k <= degree; k++) {
                Limbs.widen(c[k], limbs, from.c[k], from.limbs);
            }
        }

        void loadDerivative(Polynomial from, int limbs) {
            this.limbs = limbs;
            degree = from.degree - 1;
            for (int k = 0; k <= degree; k++) {
                Limbs.widen(spare, limbs, from.c[k + 1], from.limbs);
                Arrays.fill(c[k], 0, limbs, 0);
                Limbs.addTimes(c[k], spare, k + 1, 0, limbs);
            }
        }

        void multiplyRoots(long v) {
            for (int k = 0; k < degree; k++) {
                for (int i = k; i < degree; i++) {
                    Limbs.copy(spare, c[k], limbs);
                    Arrays.fill(c[k], 0, limbs, 0);
                    Limbs.addLongTimes(c[k], spare, v, limbs);
                }
            }
        }

        void lowerRoots(long v) {
            for (int i = 0; i < degree; i++) {
                for (int k = degree - 1; k >= i; k--) {
                    Limbs.addLongTimes(c[k], c[k + 1], v, limbs);
                }
            }
        }

        int rootsAtZero() {
            for (int k = 0; k < degree; k++) {
                if (Limbs.sign(c[k], limbs) != 0) {
                    return k;
                }
            }
            return degree;
        }

        /** Descartes' rule: the changes of sign are no bound but the number itself, as all zeros are real. */
        int rootsAbove() {
            int changes = 0;
            int last = 1;
            for (int k = degree; k >= 0; k--) {
                int sign = Limbs.sign(c[k], limbs);
                if (sign == -last) {
                    changes++;
                    last = sign;
                }
            }
            return changes;
        }

        int rootsBelow() {
            return degree - rootsAtZero() - rootsAbove();
        }
    }

    /** The characteristic polynomial of some first rows and columns from that of one row and column fewer. */
    private static final class Border {
        final int[][] vector;
        final int[][] next;

        Border() {
            vector = new int[MOST_ROWS][Limbs.FOR_COEFFICIENT];
            next = new int[MOST_ROWS][Limbs.FOR_COEFFICIENT];
        }

        /**
         * With the border v and the corner a the polynomial p becomes (t - a) p - v adj(t - A) v, and
         * the numbers b of adj(t - A) v follow one another as A b + c v, from v on downwards.
         */
        void grow(Polynomial grown, Polynomial old, int[][] matrix) {
            int k = old.degree;
            grown.degree = k + 1;
            timesLinear(grown, old, matrix[k][k]);
            for (int j = 0; j < k; j++) {
                Limbs.assign(vector[j], matrix[j][k]);
            }
            for (int i = k - 1; i >= 0; i--) {
                for (int j = 0; j < k; j++) {
                    Limbs.addTimes(grown.c[i], vector[j], -matrix[j][k], 0, grown.limbs);
                }
                advance(old.c[i], matrix, k);
            }
        }

        private static void timesLinear(Polynomial grown, Polynomial old, int corner) {
            Arrays.fill(grown.c[0], 0);
            for (int i = 0; i <= old.degree; i++) {
                Limbs.copy(grown.c[i + 1], old.c[i], grown.limbs);
            }
            for (int i = 0; i <= old.degree; i++) {
                Limbs.addTimes(grown.c[i], old.c[i], -corner, 0, grown.limbs);
            }
        }

        private void advance(int[] coefficient, int[][] matrix, int k) {
            int limbs = coefficient.length;
            for (int i = 0; i < k; i++) {
                Arrays.fill(next[i], 0);
                for (int j = 0; j < k; j++) {
                    Limbs.addTimes(next[i], vector[j], matrix[i][j], 0, limbs);
                }
                Limbs.addTimes(next[i], coefficient, matrix[i][k], 0, limbs);
            }
            for (int i = 0; i < k; i++) {
                Limbs.copy(vector[i], next[i], limbs);
            }
        }
    }

    /** Euclid's algorithm for a polynomial and its derivative, by subresultants. */
    private static final class Euclid {
        final Polynomial first;
        final Polynomial second;
        final int[] divisor;

        Euclid() {
            first = new Polynomial(Limbs.FOR_EUCLID);
            second = new Polynomial(Limbs.FOR_EUCLID);
            divisor = new int[Limbs.FOR_EUCLID];
        }

        /** Puts into common what p shares with its derivative, made to start with 1. */
        void findCommon(Polynomial p, Polynomial common, int bound) {
            int limbs = limbsNeeded(p.degree, bound);
            Polynomial upper = first;
            Polynomial lower = second;
            upper.load(p, limbs);
            lower.loadDerivative(p, limbs);
            for (int j = p.degree - 1; j >= 1; j--) {
                reduce(upper, lower);
                // All zeros are real: degrees fall by one, so a first number 0 means that all are 0.
                if (Limbs.sign(upper.c[upper.degree], limbs) == 0) {
                    break;
                }
                Polynomial swapped = upper;
                upper = lower;
                lower = swapped;
            }
            Limbs.copy(divisor, lower.c[lower.degree], limbs);
            divideAll(lower, 1);
            common.load(lower, common.limbs);
        }

        /**
         * Subresultant k has for its first number the sum, over all k of the zeros, of their k (k - 1)
         * differences multiplied, each at most 2 * bound. The widest number is the last one before it is
         * divided: then it stands there times the square of the one two steps before.
         */
        private static int limbsNeeded(int n, int bound) {
            int powers = n * (n - 1) + 2 * (n - 2) * (n - 3);
            return (powers * bitsOf(2 * bound) + 24) / Limbs.BITS + 1;
        }

        private void reduce(Polynomial upper, Polynomial lower) {
            Limbs.copy(divisor, upper.c[upper.degree], upper.limbs);
            cancelFirst(upper, lower);
            cancelFirst(upper, lower);
            for (int k = 0; k <= upper.degree; k++) {
                Limbs.copy(upper.spare, upper.c[k], upper.limbs);
                Limbs.addTimes(upper.c[k], upper.spare, -2, 0, upper.limbs);
            }
            divideAll(upper, 2);
        }

        private static void cancelFirst(Polynomial upper, Polynomial lower) {
            int top = upper.degree;
            int limbs = upper.limbs;
            int offset = top - lower.degree;
            int[] sum = upper.spare;
            for (int k = 0; k < top; k++) {
                Arrays.fill(sum, 0, limbs, 0);
                Limbs.addProduct(sum, upper.c[k], lower.c[lower.degree], 1, limbs);
                if (k >= offset) {
                    Limbs.addProduct(sum, lower.c[k - offset], upper.c[top], -1, limbs);
                }
                Limbs.copy(upper.c[k], sum, limbs);
            }
            upper.degree = top - 1;
        }

        private void divideAll(Polynomial p, int times) {
            int zeros = Limbs.zeroBitsAtEnd(divisor, p.limbs);
            Limbs.halve(divisor, zeros, p.limbs);
            for (int k = 0; k <= p.degree; k++) {
                Limbs.halve(p.c[k], zeros * times, p.limbs);
                for (int i = 0; i < times; i++) {
                    Limbs.divideByOdd(p.c[k], divisor, p.limbs);
                }
            }
        }
    }

    private static int bitsOf(long v) {
        for (int bits = 0; bits < 63; bits++) {
            if (v >> bits == 0) {
                return bits;
            }
        }
        return 63;
    }

    /** The eigenvalues of one matrix; what has been found out about them is kept. */
    private static final class Spectrum {
        private static final long STEPS = 1L << FINEST_GRID;
        /**
         * A repeated eigenvalue is a zero of degree at most 3, and any other one that goes with it in six
         * rows is so far from it that at most 4 differences, multiplied, are a whole number other than 0.
         * The other 3 are at most 12000000 each: the least is above 2^-72, so a grid of 72 parts the two.
         */
        private static final int MOST_SPLITS = 72 - FINEST_GRID;

        final Polynomial[] blocks;
        final Polynomial repeated;
        final Polynomial fine;
        final Polynomial probe;
        final Polynomial inner;
        final Polynomial innerRepeated;
        final Border border;
        final Euclid euclid;
        final long[] cells;
        final boolean[] cellKnown;
        boolean repeatedKnown;
        int n;
        int bound;
        long trace;

        Spectrum() {
            blocks = new Polynomial[MOST_ROWS + 1];
            for (int k = 0; k <= MOST_ROWS; k++) {
                blocks[k] = new Polynomial(Limbs.FOR_COEFFICIENT);
            }
            Limbs.assign(blocks[0].c[0], 1);
            repeated = new Polynomial(Limbs.FOR_COEFFICIENT);
            fine = new Polynomial(Limbs.FOR_EDGE);
            probe = new Polynomial(Limbs.FOR_FRACTION);
            inner = new Polynomial(Limbs.FOR_FRACTION);
            innerRepeated = new Polynomial(Limbs.FOR_FRACTION);
            border = new Border();
            euclid = new Euclid();
            cells = new long[MOST_ROWS];
            cellKnown = new boolean[MOST_ROWS];
        }

        void read(int[][] matrix, int n) {
            this.n = n;
            measure(matrix);
            for (int k = 0; k < n; k++) {
                border.grow(blocks[k + 1], blocks[k], matrix);
                cellKnown[k] = false;
            }
            repeatedKnown = false;
            fine.load(blocks[n], limbsForEdges());
            fine.multiplyRoots(STEPS);
        }

        /** No eigenvalue is larger in size than the largest sum of sizes in a row. */
        private void measure(int[][] matrix) {
            bound = 0;
            trace = 0;
            for (int i = 0; i < n; i++) {
                int sum = 0;
                for (int j = 0; j < n; j++) {
                    sum += Math.abs(matrix[i][j]);
                }
                bound = Math.max(bound, sum);
                trace += matrix[i][i];
            }
        }

        private int limbsForEdges() {
            return (n * (bitsOf(bound) + FINEST_GRID + 1) + 6) / Limbs.BITS + 1;
        }

        Polynomial movedBlock(int k, long top, long bottom) {
            probe.load(blocks[k], Limbs.FOR_FRACTION);
            probe.multiplyRoots(bottom);
            probe.lowerRoots(top);
            return probe;
        }

        private int howManyBelowEdge(long edge) {
            probe.load(fine, fine.limbs);
            probe.lowerRoots(edge);
            return probe.rootsBelow();
        }

        /** Looks for the greatest edge that at most i eigenvalues lie below, bit by bit. */
        long finestCell(int i) {
            if (cellKnown[i]) {
                return cells[i];
            }
            long last = bound * STEPS;
            long edge = -last;
            for (int bit = bitsOf(2 * last); bit >= 0; bit--) {
                long next = edge + (1L << bit);
                if (next <= last && howManyBelowEdge(next) <= i) {
                    edge = next;
                }
            }
            int end = howManyBelowEdge(edge + 1);
            for (int j = howManyBelowEdge(edge); j < end; j++) {
                cells[j] = edge;
                cellKnown[j] = true;
            }
            return edge;
        }

        int cellsTaken(int w) {
            int taken = 1;
            for (int i = 1; i < n; i++) {
                if (finestCell(i) >> (FINEST_GRID - w) != finestCell(i - 1) >> (FINEST_GRID - w)) {
                    taken++;
                }
            }
            return taken;
        }

        boolean isWhole(int i) {
            long edge = finestCell(i);
            if (edge % STEPS != 0) {
                return false;
            }
            probe.load(fine, fine.limbs);
            probe.lowerRoots(edge);
            return i < probe.rootsBelow() + probe.rootsAtZero();
        }

        /** An eigenvalue of multiplicity m is a zero of repeated, m - 1 times. */
        void findRepeated() {
            if (!repeatedKnown) {
                euclid.findCommon(blocks[n], repeated, bound);
                repeatedKnown = true;
            }
        }

        int howManyDifferent() {
            return n - repeated.degree;
        }

        /** Splits the cell of eigenvalue i until it holds no repeated one, or it alone. */
        int howManySame(int i) {
            if (repeated.degree == 0) {
                return 1;
            }
            long edge = finestCell(i);
            enterCell(inner, blocks[n], edge);
            enterCell(innerRepeated, repeated, edge);
            for (int split = 0; split <= MOST_SPLITS; split++) {
                int repeats = rootsBelowOne(innerRepeated) - innerRepeated.rootsBelow();
                if (repeats == 0) {
                    return 1;
                }
                int all = rootsBelowOne(inner) - inner.rootsBelow();
                if (all - repeats == 1) {
                    return all;
                }
                inner.multiplyRoots(2);
                innerRepeated.multiplyRoots(2);
                if (i >= rootsBelowOne(inner)) {
                    inner.lowerRoots(1);
                    innerRepeated.lowerRoots(1);
                }
            }
            return 1;
        }

        private static void enterCell(Polynomial entered, Polynomial p, long edge) {
            entered.load(p, Limbs.FOR_FRACTION);
            entered.multiplyRoots(STEPS);
            entered.lowerRoots(edge);
        }

        private int rootsBelowOne(Polynomial p) {
            probe.load(p, p.limbs);
            probe.lowerRoots(1);
            return probe.rootsBelow();
        }

        boolean traceFits() {
            long least = 0;
            for (int i = 0; i < n; i++) {
                least += finestCell(i);
            }
            return least <= trace * STEPS && trace * STEPS < least + n;
        }

        boolean blocksInterlace() {
            for (int i = 0; i < n; i++) {
                long edge = finestCell(i);
                int all = howManyBelowEdge(edge);
                for (int k = 1; k < n; k++) {
                    int some = movedBlock(k, edge, STEPS).rootsBelow();
                    if (some > all || all - some > n - k) {
                        return false;
                    }
                }
            }
            return true;
        }
    }
}
