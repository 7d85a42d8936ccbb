import java.math.BigInteger;
import java.util.Arrays;
import java.util.List;
import java.util.Random;

/**
 * What the document says apart from its promises, sentence by sentence: what the class is, the terms, and what is
 * not promised. The answers come from the document's words and from exact arithmetic by the shortest way.
 */
public final class TermsTest {
    private static final Due due = new Due();
    private static final Document document = new Document(due);
    private static final Script script = new Script(due);
    private static final Random random = new Random(17);

    /** The eigenvalues of 2 1 / 1 2 are 1 and 3, the numbers of its polynomial 3, -4 and 1. */
    private static final String[] RUN = {"make(2)", "put(0, 0, 2)", "put(1, 0, 1)", "put(1, 1, 2)",
        "data(1, 2, 0, 0, 0, 0) = 1", "data(3, 5, 0, 0, 0, 0) = 2", "characteristic(1) = 2"};
    /** What the object then shows; of the last spread the second number is 3 * (2 + 15 + 1) - 5 * 8. */
    private static final String[] SHOWN = {"size(0) = 2", "size(1) = 2", "matrix = 2 1 / 1 2", "printed = -4",
        "cell(0, 0) = 1", "cell(1, 0) = 3", "multiplicity(1) = 1", "distinct() = 2", "whole(0) = true",
        "apart() = 0", "check() = 1", "count(1, 2, 1, 1) = 1", "count(2, 2, 1, 1) = 0", "spread() = 0",
        "matrix = 4 6 / 6 9", "data(1, 1, 0, 0, 0, 0) = 3", "spread() = 0", "matrix = 8 14 / 14 26"};

    public static void main(String[] args) {
        whatItIs();
        lastCalls();
        matrix();
        characteristicNumbers();
        eigenvalues();
        cells();
        data();
        spread();
        throwsChangeNothing();
        constants();
        notPromised();
        document.end("What it is", "Terms", "Not promised");
        due.end();
    }

    private static String[] joined(String[] first, String... then) {
        String[] all = Arrays.copyOf(first, first.length + then.length);
        System.arraycopy(then, 0, all, first.length, then.length);
        return all;
    }

    /** t^3 - t^2 - q t + 1 with q = 999999000002: of its zeros one lies between 1 / (q + 1) and 1 / q. */
    private static void whatItIs() {
        document.under("What it is");
        document.says("Symmetric matrices of whole numbers and their eigenvalues, exactly: characteristic numbers, "
            + "how many eigenvalues lie below a fraction, in which cell of any grid each one lies, which are the "
            + "same, which are whole; signatures; matrices from data.");
        script.run("make(3)", "put(0, 0, 1000000)", "put(0, 1, 1)", "put(1, 2, 1)", "put(2, 2, -999999)",
            "characteristic(0) = 1", "printed = 1", "characteristic(1) = 13", "printed = -999999000002",
            "characteristic(2) = 2", "printed = -1", "characteristic(3) = 1", "printed = 1",
            "count(3, 1, 999999000003, 0) = 1", "count(3, 1, 999999000002, 0) = 2",
            "cell(0, 0) = -1000000", "cell(1, 0) = 0", "cell(1, 30) = 0", "cell(2, 0) = 1000000",
            "distinct() = 3", "multiplicity(1) = 1", "whole(1) = false",
            "count(3, 0, 1, 0) = 1", "count(3, 0, 1, 1) = 0", "count(3, 0, 1, 2) = 2",
            "data(1, 0, 2, 0, 0, 0) = 1", "data(0, 1, 2, 0, 0, 0) = 2", "spread() = 0",
            "matrix = 1 -1 0 / -1 1 0 / 0 0 0", "distinct() = 2", "multiplicity(0) = 2", "multiplicity(2) = 1",
            "whole(0) = true", "whole(2) = true", "cell(2, 5) = 64");
    }

    private static void lastCalls() {
        document.says("An object is used for at most 512 calls after it has been made; what later calls answer is "
            + "free.");
        String[] last = {"make(6)", "make(7) throws IllegalArgumentException", "put(1, 1, 9)",
            "put(2, 0, 1) throws IndexOutOfBoundsException", "put(1, 0, 1000001) throws IllegalArgumentException",
            "at(0, 1) = 1", "at(0, 2) throws IndexOutOfBoundsException", "size(0) = 2", "size(1) = 2",
            "data(4, 4, 0, 0, 0, 0) = 3", "spread() = 0", "shift(1) = 0", "shift(999999) = LARGE",
            "characteristic(0) = 1", "character(1) = '4'", "character(2) = NONE", "count(2, 2, 1, 0) = 1",
            "count(2, 2, 0, 0) throws IllegalArgumentException", "cell(1, 30) = 3221225472",
            "cell(1, 31) throws IllegalArgumentException", "cell(2, 30) throws IndexOutOfBoundsException",
            "multiplicity(1) = 1", "multiplicity(2) throws IndexOutOfBoundsException", "distinct() = 2",
            "whole(1) = true", "whole(-1) throws IndexOutOfBoundsException", "apart() = 0", "check() = 1"};
        for (String call : last) {
            SpectrumDesk desk = script.run(RUN);
            for (int used = RUN.length; used < 511; used += 4) {
                script.goOn(desk, "put(0, 1, -7)", "cell(0, 0) = -5", "put(0, 1, 1)", "distinct() = 2");
            }
            script.goOn(desk, call);
        }
    }

    private static void matrix() {
        document.under("Terms");
        document.says("THE MATRIX has n rows and columns, n from 1 to 6, of whole numbers of at most 1000000 in size; "
            + "what stands in row i and column j stands in row j and column i, too.");
        for (int n = 1; n <= 6; n++) {
            SpectrumDesk desk = script.run("make(" + n + ")", "size(0) = " + n);
            int[][] want = new int[n][n];
            for (int i = 0; i < n; i++) {
                for (int j = n - 1; j >= 0; j--) {
                    int v = new int[] {1000000, -1000000, 5 * i - 7 * j}[(i + 2 * j) % 3];
                    want[i][j] = v;
                    want[j][i] = v;
                    script.goOn(desk, "put(" + i + ", " + j + ", " + v + ")", "at(" + i + ", " + j + ") = " + v,
                        "at(" + j + ", " + i + ") = " + v);
                }
                script.goOn(desk, "matrix = " + rows(want));
            }
        }
        script.run("make(0) throws IllegalArgumentException", "make(7) throws IllegalArgumentException",
            "put(0, 0, 1000001) throws IllegalArgumentException", "put(0, 0, -1000001) throws IllegalArgumentException",
            "shift(1000001) = LARGE", "shift(-1000001) = LARGE", "matrix = 0");
        document.says("At first n is 1, and 0 stands in it.");
        script.run("matrix = 0");
        script.run("size(0) = 1");
        script.run("at(0, 0) = 0");
        script.run("at(1, 0) throws IndexOutOfBoundsException");
        script.run("cell(0, 30) = 0");
    }

    private static String rows(int[][] matrix) {
        StringBuilder text = new StringBuilder();
        for (int[] row : matrix) {
            text.append(text.length() == 0 ? "" : " / ");
            text.append(Arrays.toString(row).replaceAll("[\\[\\],]", ""));
        }
        return text.toString();
    }

    private static void characteristicNumbers() {
        document.says("THE CHARACTERISTIC NUMBERS c0 to cn: det(t - A) = c0 + c1 t + .. + cn t^n, t standing along "
            + "the diagonal.");
        for (int round = 0; round < 40; round++) {
            int n = 1 + round % 6;
            int most = new int[] {1, 10, 1000, 1000000}[round % 4];
            int[][] a = new int[n][n];
            for (int i = 0; i < n * n; i++) {
                int v = random.nextInt(2 * most + 1) - most;
                a[i / n][i % n] = v;
                a[i % n][i / n] = v;
            }
            BigInteger[] c = characteristicOf(Due.desk(a));
            // Polynomials of degree n that agree for n + 1 numbers are the same.
            for (int t = 0; t <= n; t++) {
                due.same("det(" + t + " - A) of " + rows(a), sumAt(c, t).toString(), lessFrom(t, a).toString());
            }
        }
    }

    private static BigInteger[] characteristicOf(SpectrumDesk desk) {
        BigInteger[] c = new BigInteger[desk.size(0) + 1];
        for (int k = 0; k < c.length; k++) {
            desk.characteristic(k);
            c[k] = new BigInteger(Due.printed(desk));
        }
        return c;
    }

    private static BigInteger sumAt(BigInteger[] c, int t) {
        BigInteger sum = BigInteger.ZERO;
        for (int k = c.length - 1; k >= 0; k--) {
            sum = sum.multiply(BigInteger.valueOf(t)).add(c[k]);
        }
        return sum;
    }

    private static BigInteger lessFrom(int t, int[][] a) {
        BigInteger[][] m = new BigInteger[a.length][a.length];
        for (int i = 0; i < a.length; i++) {
            for (int j = 0; j < a.length; j++) {
                m[i][j] = BigInteger.valueOf((i == j ? t : 0) - a[i][j]);
            }
        }
        return determinant(m, 0, (1 << a.length) - 1);
    }

    /** Along row i, with the columns whose bits are set. */
    private static BigInteger determinant(BigInteger[][] m, int i, int columns) {
        if (columns == 0) {
            return BigInteger.ONE;
        }
        BigInteger sum = BigInteger.ZERO;
        BigInteger sign = BigInteger.ONE;
        for (int j = 0; j < m.length; j++) {
            if ((columns & 1 << j) != 0) {
                BigInteger part = determinant(m, i + 1, columns - (1 << j));
                sum = sum.add(sign.multiply(m[i][j]).multiply(part));
                sign = sign.negate();
            }
        }
        return sum;
    }

    /**
     * H = u.u - 2 u u^T has the square (u.u)^2, so H D H has the numbers of the diagonal D as its eigenvalues, times
     * that square: all of them are known, in any order, and the matrix does not show them.
     */
    private static void eigenvalues() {
        document.says("THE EIGENVALUES are the n numbers (all of them real) for which this is 0, each as often as it "
            + "is a zero, in order, the least one first, numbered from 0.");
        document.says("Some that are the same have the MULTIPLICITY that tells how many they are.");
        for (int round = 0; round < 90; round++) {
            int n = 1 + round % 6;
            int[] u = new int[n];
            int[] d = new int[n];
            for (int i = 0; i < n; i++) {
                u[i] = 1 + random.nextInt(2);
                d[i] = (random.nextInt(5) - 2) * (round % 2 == 0 ? 1 : 200);
            }
            int square = Arrays.stream(u).map(v -> v * v).sum();
            SpectrumDesk desk = Due.desk(mirrored(u, d, square));
            Arrays.sort(d);
            for (int i = 0; i < n; i++) {
                int e = square * square * d[i];
                int same = howMany(d, d[i], 0);
                script.goOn(desk, "cell(" + i + ", 0) = " + e, "cell(" + i + ", 30) = " + ((long) e << 30),
                    "whole(" + i + ") = true", "multiplicity(" + i + ") = " + same,
                    "count(" + n + ", " + e + ", 1, 0) = " + howMany(d, d[i], -1),
                    "count(" + n + ", " + e + ", 1, 1) = " + same,
                    "count(" + n + ", " + e + ", 1, 2) = " + howMany(d, d[i], 1));
            }
            script.goOn(desk, "distinct() = " + Arrays.stream(d).distinct().count(), "apart() = 0");
        }
    }

    private static int[][] mirrored(int[] u, int[] d, int square) {
        int n = u.length;
        int[][] a = new int[n][n];
        for (int i = 0; i < n; i++) {
            for (int j = 0; j < n; j++) {
                for (int k = 0; k < n; k++) {
                    int left = (i == k ? square : 0) - 2 * u[i] * u[k];
                    int right = (j == k ? square : 0) - 2 * u[j] * u[k];
                    a[i][j] += left * d[k] * right;
                }
            }
        }
        return a;
    }

    private static int howMany(int[] d, int v, int sign) {
        return (int) Arrays.stream(d).filter(e -> Integer.compare(e, v) == sign).count();
    }

    /** The eigenvalues of s + a, b / b, s - a are s and the root of a^2 + b^2 less or more. */
    private static void cells() {
        document.says("THE CELL of an eigenvalue e in the grid of w, from 0 to 30: the greatest whole number k with "
            + "k / 2^w at most e.");
        int[][] all = {{1, 1, 0}, {3, 4, 0}, {3, 4, -5}, {1, 1, -1}, {2, 1, 7}, {500000, 1, -500000}, {1, 1000000, 3},
            {999999, 1000000, 1}, {600000, 800000, 400000}, {0, 1000000, 1000000}, {0, 0, -1000000}, {1, 0, 0}};
        for (int[] abs : all) {
            SpectrumDesk desk = Due.desk(Due.row(abs[2] + abs[0], abs[1]), Due.row(abs[1], abs[2] - abs[0]));
            long square = (long) abs[0] * abs[0] + (long) abs[1] * abs[1];
            for (int w = 0; w <= 30; w++) {
                BigInteger[] root = BigInteger.valueOf(square).shiftLeft(2 * w).sqrtAndRemainder();
                long floor = root[0].longValueExact();
                long ceiling = floor + root[1].signum();
                long middle = (long) abs[2] << w;
                script.goOn(desk, "cell(0, " + w + ") = " + (middle - ceiling));
                script.goOn(desk, "cell(1, " + w + ") = " + (middle + floor));
            }
            script.goOn(desk, "cell(0, -1) throws IllegalArgumentException");
            script.goOn(desk, "cell(1, 31) throws IllegalArgumentException");
        }
    }

    private static void data() {
        document.says("THE DATA are at most 100 rows of n whole numbers of at most 1000 in size.");
        for (int n = 1; n <= 6; n++) {
            SpectrumDesk desk = script.run("make(" + n + ")");
            long[] row = {1000, -1000, 999, -999, 1000, -1000};
            for (int i = 1; i <= 100; i++) {
                script.goOn(desk, Calls.told("data", row) + " = " + i, "size(1) = " + i);
                long[] wrong = row.clone();
                wrong[i % n] = i % 2 == 0 ? 1001 : -1001;
                script.goOn(desk, Calls.told("data", wrong) + " = NONE", "size(1) = " + i);
            }
            script.goOn(desk, "data(0, 0, 0, 0, 0, 0) = NONE", "size(1) = 100");
        }
    }

    private static void spread() {
        document.says("Their SPREAD is the matrix that has in row i and column j: how many rows there are times the "
            + "sum over all rows of what they have at i times what they have at j, less the sum of what all have at "
            + "i times the sum of what all have at j.");
        // Four rows: 4 * (1 + 4 + 9 + 16) - 10 * 10, 4 * (-5 - 8 + 21 + 0) - 10 * -2 and 4 * (25 + 16 + 49) - 4.
        script.run("make(2)", "data(1, -5, 0, 0, 0, 0) = 1", "data(2, -4, 0, 0, 0, 0) = 2",
            "data(3, 7, 0, 0, 0, 0) = 3", "data(4, 0, 0, 0, 0, 0) = 4", "spread() = 0", "matrix = 20 52 / 52 356",
            "size(1) = 4", "spread() = 0", "matrix = 20 52 / 52 356");
        for (int round = 0; round < 60; round++) {
            int[][] rows = new int[random.nextInt(round % 3 == 0 ? 100 : 5)][6];
            int n = 1 + round % 6;
            SpectrumDesk desk = script.run("make(" + n + ")", "put(0, 0, 77)");
            for (int[] row : rows) {
                Arrays.setAll(row, i -> random.nextInt(rows.length > 9 ? 30 : 700) - 9);
                desk.data(row[0], row[1], row[2], row[3], row[4], row[5]);
            }
            long[][] want = spreadByPairs(rows, n);
            boolean large = Arrays.stream(want).flatMapToLong(Arrays::stream).anyMatch(v -> Math.abs(v) > 1000000);
            script.goOn(desk, large ? "spread() = LARGE" : "spread() = 0");
            for (int i = 0; i < n * n; i++) {
                long v = !large ? want[i / n][i % n] : i == 0 ? 77 : 0;
                script.goOn(desk, "at(" + i / n + ", " + i % n + ") = " + v);
            }
        }
    }

    /** The same by another way: each two rows' differences at i and at j, multiplied, all together. */
    private static long[][] spreadByPairs(int[][] rows, int n) {
        long[][] sum = new long[n][n];
        for (int p = 0; p < rows.length; p++) {
            for (int q = 0; q < p; q++) {
                for (int i = 0; i < n * n; i++) {
                    sum[i / n][i % n] += (rows[p][i / n] - rows[q][i / n]) * (rows[p][i % n] - rows[q][i % n]);
                }
            }
        }
        return sum;
    }

    private static void throwsChangeNothing() {
        document.says("What throws changes nothing.");
        String index = " throws IndexOutOfBoundsException";
        String illegal = " throws IllegalArgumentException";
        String[] wrong = {"make(0)" + illegal, "make(7)" + illegal, "make(MIN)" + illegal, "make(MAX)" + illegal,
            "put(2, 0, 5)" + index, "put(0, 2, 5)" + index, "put(-1, 1, 5)" + index, "put(1, MAX, 5)" + index,
            "put(0, 1, 1000001)" + illegal, "put(1, 1, MIN)" + illegal, "put(2, 2, 1000001)" + index,
            "at(2, 0)" + index, "at(0, 2)" + index, "at(MIN, -1)" + index,
            "count(0, 1, 1, 0)" + illegal, "count(3, 1, 1, 1)" + illegal, "count(2, 1, 1, 3)" + illegal,
            "count(2, 1, 1, -1)" + illegal, "count(2, 1, 0, 2)" + illegal, "count(2, 1, Long.MIN, 0)" + illegal,
            "cell(2, 0)" + index, "cell(-1, 30)" + index, "cell(0, 31)" + illegal, "cell(1, -1)" + illegal,
            "multiplicity(2)" + index, "multiplicity(-1)" + index, "whole(2)" + index, "whole(MIN)" + index};
        for (String call : wrong) {
            script.goOn(script.run(joined(RUN, call)), SHOWN);
            script.goOn(script.run(joined(RUN, "apart() = 0", "multiplicity(0) = 1", call)), SHOWN);
        }
        script.goOn(script.run(joined(RUN, wrong)), SHOWN);
    }

    private static void constants() {
        document.says("The constants: `NONE = -1`: There is none.");
        due.same("NONE", SpectrumDesk.NONE, -1);
        script.run("size(2) = -1", "character(0) = -1", "characteristic(2) = -1", "data(1001, 0, 0, 0, 0, 0) = -1");
        // 0, and beside it an eigenvalue of some 10^-12.
        script.run("make(4)", "put(0, 0, 1000000)", "put(0, 1, 1)", "put(1, 2, 1)", "put(2, 2, -999999)",
            "apart() = -1");
        document.says("`LARGE = -2`: A number would be too large.");
        due.same("LARGE", SpectrumDesk.LARGE, -2);
        script.run("shift(1000001) = -2", "data(1000, 0, 0, 0, 0, 0) = 1", "data(-1000, 0, 0, 0, 0, 0) = 2",
            "spread() = -2", "matrix = 0");
    }

    private static void notPromised() {
        document.under("Not promised");
        document.says("How the state is held inside the object is free, as are the speed of each call, the text of "
            + "toString and the behaviour of equals and hashCode.");
        // Free, but for the rules of the language, which want none of one's own.
        for (String name : new String[] {"toString", "equals", "hashCode"}) {
            due.no("a " + name + " of its own", Arrays.stream(SpectrumDesk.class.getDeclaredMethods())
                .anyMatch(method -> method.getName().equals(name)));
        }
        document.says("Use of one object from several threads at once is not promised to be safe.");
        // What is left of it: two objects have nothing in common, even if their calls take turns.
        SpectrumDesk one = new SpectrumDesk();
        SpectrumDesk other = new SpectrumDesk();
        for (int i = 0; i < RUN.length; i++) {
            script.goOn(one, RUN[i]);
            script.goOn(other, "make(6)", "put(5, 5, 9)", "characteristic(6) = 1", "cell(5, 0) = 9", "distinct() = 2");
        }
        script.goOn(one, SHOWN);
        script.goOn(other, "size(0) = 6", "size(1) = 0", "printed = 1", "cell(5, 0) = 9", "multiplicity(0) = 5");
        document.says("Nothing is promised beyond the answers and state changes described above, and nothing about an "
            + "object after its 512th call.");
        questionsChangeNothing();
        callsBeyondTheLast();
    }

    private static void questionsChangeNothing() {
        String[] questions = {"at(0, 1) = 1", "size(0) = 2", "size(1) = 2", "size(2) = NONE", "character(0) = '-'",
            "character(2) = NONE", "count(1, 1, 2, 2) = 1", "count(2, 5, 2, 0) = 1", "cell(0, 30) = 1073741824",
            "cell(1, 2) = 12", "multiplicity(0) = 1", "distinct() = 2", "whole(1) = true", "apart() = 0",
            "check() = 1", "characteristic(3) = NONE", "characteristic(-1) = NONE", "shift(999999) = LARGE",
            "data(0, 1001, 0, 0, 0, 0) = NONE"};
        for (String question : questions) {
            script.goOn(script.run(joined(RUN, question, question)), SHOWN);
        }
        script.goOn(script.run(joined(joined(RUN, questions), questions)), SHOWN);
    }

    /** LANGUAGE.md, rule 7, still holds: no call throws by itself, in any state. */
    private static void callsBeyondTheLast() {
        SpectrumDesk desk = new SpectrumDesk();
        for (int call = 0; call < 5000; call++) {
            int op = random.nextInt(Calls.NAMES.size());
            long[] a = new long[Calls.MOST_ARGUMENTS];
            Arrays.setAll(a, i -> random.nextInt(9) == 0 ? random.nextInt() : random.nextInt(7));
            String answer = Calls.answer(desk, op, a);
            boolean thrown = answer.startsWith("throws.");
            due.yes("call " + call + " throws what it may", !thrown || mayThrow(op, answer));
        }
    }

    private static boolean mayThrow(int op, String answer) {
        String name = Calls.NAMES.get(op);
        if (answer.equals(Calls.INDEX)) {
            return List.of("put", "at", "cell", "multiplicity", "whole").contains(name);
        }
        return answer.equals(Calls.ILLEGAL) && List.of("make", "put", "count", "cell").contains(name);
    }
}
