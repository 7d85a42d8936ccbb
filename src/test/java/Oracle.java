import java.math.BigInteger;
import java.util.ArrayList;
import java.util.List;

/**
 * The eigenvalues of a symmetric matrix by other means than the program's: the characteristic numbers
 * from traces, the repeated zeros by Yun's algorithm, and all counting by Sturm's chains.
 */
final class Oracle {
    /** Number 0 is the polynomial's number without t. */
    final BigInteger[] characteristic;
    /** Factor m (from 0) has the eigenvalues of multiplicity m + 1, each once. */
    private final List<List<BigInteger[]>> chains = new ArrayList<>();
    private final int n;

    Oracle(int[][] matrix, int n) {
        this.n = n;
        characteristic = fromTraces(matrix, n);
        BigInteger[] rest = characteristic;
        BigInteger[] common = gcd(rest, derivative(rest));
        BigInteger[] simple = quotient(rest, common);
        while (simple.length > 1) {
            BigInteger[] next = gcd(simple, common);
            chains.add(chain(quotient(simple, next)));
            common = quotient(common, next);
            simple = next;
        }
    }

    int different() {
        int sum = 0;
        for (List<BigInteger[]> chain : chains) {
            sum += chain.get(0).length - 1;
        }
        return sum;
    }

    /** How many eigenvalues are less than top / bottom, or at most that. */
    int below(BigInteger top, BigInteger bottom, boolean same) {
        int sum = 0;
        for (int m = 0; m < chains.size(); m++) {
            sum += (m + 1) * zerosBelow(chains.get(m), top, bottom, same);
        }
        return sum;
    }

    private int differentBelow(BigInteger top, BigInteger bottom) {
        int sum = 0;
        for (List<BigInteger[]> chain : chains) {
            sum += zerosBelow(chain, top, bottom, false);
        }
        return sum;
    }

    BigInteger cell(int i, int w) {
        BigInteger bottom = BigInteger.ONE.shiftLeft(w);
        BigInteger low = BigInteger.valueOf(-7000000).multiply(bottom);
        BigInteger high = low.negate();
        while (high.subtract(low).compareTo(BigInteger.ONE) > 0) {
            BigInteger middle = low.add(high).shiftRight(1);
            if (below(middle, bottom, false) <= i) {
                low = middle;
            } else {
                high = middle;
            }
        }
        return low;
    }

    boolean whole(int i) {
        return below(cell(i, 0), BigInteger.ONE, true) > i;
    }

    int multiplicity(int i) {
        for (int w = 8; w < 1000; w *= 2) {
            BigInteger bottom = BigInteger.ONE.shiftLeft(w);
            BigInteger low = cell(i, w);
            BigInteger high = low.add(BigInteger.ONE);
            if (differentBelow(high, bottom) - differentBelow(low, bottom) == 1) {
                return below(high, bottom, false) - below(low, bottom, false);
            }
        }
        throw new IllegalStateException("eigenvalues that can't be told apart");
    }

    int apart() {
        for (int w = 0; w <= 30; w++) {
            int taken = 1;
            for (int i = 1; i < n; i++) {
                taken += cell(i, w).equals(cell(i - 1, w)) ? 0 : 1;
            }
            if (taken == different()) {
                return w;
            }
        }
        return SpectrumDesk.NONE;
    }

    /** Promise 17 for a matrix, word by word, with both edges of each cell. */
    static int check(int[][] matrix) {
        int n = matrix.length;
        Oracle all = new Oracle(matrix, n);
        BigInteger bottom = BigInteger.ONE.shiftLeft(30);
        BigInteger sum = BigInteger.ZERO;
        BigInteger least = BigInteger.ZERO;
        boolean fits = true;
        for (int i = 0; i < n; i++) {
            BigInteger edge = all.cell(i, 30);
            sum = sum.add(BigInteger.valueOf(matrix[i][i]).multiply(bottom));
            least = least.add(edge);
            for (int k = 1; k < n; k++) {
                Oracle first = new Oracle(matrix, k);
                fits &= interlaces(all, first, edge, bottom);
                fits &= interlaces(all, first, edge.add(BigInteger.ONE), bottom);
            }
        }
        BigInteger end = least.add(BigInteger.valueOf(n));
        return fits && least.compareTo(sum) <= 0 && sum.compareTo(end) < 0 ? 1 : 0;
    }

    private static boolean interlaces(Oracle all, Oracle first, BigInteger top, BigInteger bottom) {
        int fewer = all.below(top, bottom, false) - first.below(top, bottom, false);
        return fewer >= 0 && fewer <= all.n - first.n;
    }

    private static BigInteger[] fromTraces(int[][] matrix, int n) {
        BigInteger[] c = new BigInteger[n + 1];
        c[n] = BigInteger.ONE;
        BigInteger[][] m = new BigInteger[n][n];
        for (BigInteger[] row : m) {
            java.util.Arrays.fill(row, BigInteger.ZERO);
        }
        for (int k = 1; k <= n; k++) {
            BigInteger[][] next = new BigInteger[n][n];
            for (int i = 0; i < n; i++) {
                for (int j = 0; j < n; j++) {
                    m[i][j] = i == j ? m[i][j].add(c[n - k + 1]) : m[i][j];
                }
            }
            BigInteger trace = BigInteger.ZERO;
            for (int i = 0; i < n; i++) {
                for (int j = 0; j < n; j++) {
                    next[i][j] = BigInteger.ZERO;
                    for (int l = 0; l < n; l++) {
                        next[i][j] = next[i][j].add(BigInteger.valueOf(matrix[i][l]).multiply(m[l][j]));
                    }
                }
                trace = trace.add(next[i][i]);
            }
            c[n - k] = trace.negate().divide(BigInteger.valueOf(k));
            m = next;
        }
        return c;
    }

    private static int zerosBelow(List<BigInteger[]> chain, BigInteger top, BigInteger bottom, boolean same) {
        int sum = changes(chain, null, null) - changes(chain, top, bottom);
        return same || signAt(chain.get(0), top, bottom) != 0 ? sum : sum - 1;
    }

    /** Changes of sign in the chain at a fraction, or far below all zeros where there is none. */
    private static int changes(List<BigInteger[]> chain, BigInteger top, BigInteger bottom) {
        int last = 0;
        int sum = 0;
        for (BigInteger[] p : chain) {
            int sign = top == null
                ? p[p.length - 1].signum() * (p.length % 2 == 1 ? 1 : -1)
                : signAt(p, top, bottom);
            if (sign != 0) {
                sum += sign == -last ? 1 : 0;
                last = sign;
            }
        }
        return sum;
    }

    private static int signAt(BigInteger[] p, BigInteger top, BigInteger bottom) {
        BigInteger sum = BigInteger.ZERO;
        BigInteger power = BigInteger.ONE;
        for (int k = p.length - 1; k >= 0; k--) {
            sum = sum.multiply(top).add(p[k].multiply(power));
            power = power.multiply(bottom);
        }
        return sum.signum();
    }

    private static List<BigInteger[]> chain(BigInteger[] p) {
        List<BigInteger[]> chain = new ArrayList<>();
        chain.add(p);
        BigInteger[] next = primitive(derivative(p));
        while (next.length > 0) {
            chain.add(next);
            BigInteger[] left = remainder(chain.get(chain.size() - 2), next);
            for (int k = 0; k < left.length; k++) {
                left[k] = left[k].negate();
            }
            next = primitive(left);
        }
        return chain;
    }

    private static BigInteger[] derivative(BigInteger[] p) {
        BigInteger[] d = new BigInteger[p.length - 1];
        for (int k = 1; k < p.length; k++) {
            d[k - 1] = p[k].multiply(BigInteger.valueOf(k));
        }
        return d;
    }

    private static BigInteger[] gcd(BigInteger[] p, BigInteger[] q) {
        BigInteger[] a = primitive(p);
        BigInteger[] b = primitive(q);
        while (b.length > 0) {
            BigInteger[] left = primitive(remainder(a, b));
            a = b;
            b = left;
        }
        if (a[a.length - 1].signum() < 0) {
            for (int k = 0; k < a.length; k++) {
                a[k] = a[k].negate();
            }
        }
        return a;
    }

    /** The remainder times a number above 0, without zeros in front. */
    private static BigInteger[] remainder(BigInteger[] p, BigInteger[] q) {
        BigInteger[] left = p.clone();
        BigInteger lead = q[q.length - 1];
        int length = left.length;
        while (length >= q.length) {
            BigInteger first = left[length - 1];
            int by = length - q.length;
            for (int k = 0; k < length; k++) {
                left[k] = left[k].multiply(lead.abs());
                if (k >= by) {
                    BigInteger part = first.multiply(q[k - by]);
                    left[k] = lead.signum() > 0 ? left[k].subtract(part) : left[k].add(part);
                }
            }
            length--;
            while (length > 0 && left[length - 1].signum() == 0) {
                length--;
            }
        }
        return java.util.Arrays.copyOf(left, length);
    }

    private static BigInteger[] primitive(BigInteger[] p) {
        BigInteger content = BigInteger.ZERO;
        for (BigInteger c : p) {
            content = content.gcd(c);
        }
        BigInteger[] q = new BigInteger[p.length];
        for (int k = 0; k < p.length; k++) {
            q[k] = p[k].divide(content);
        }
        return q;
    }

    /** p / q where q divides p and starts with 1, as all factors of a characteristic polynomial may. */
    private static BigInteger[] quotient(BigInteger[] p, BigInteger[] q) {
        BigInteger[] left = p.clone();
        BigInteger[] answer = new BigInteger[p.length - q.length + 1];
        for (int by = answer.length - 1; by >= 0; by--) {
            answer[by] = left[by + q.length - 1];
            for (int k = 0; k < q.length; k++) {
                left[by + k] = left[by + k].subtract(answer[by].multiply(q[k]));
            }
        }
        return answer;
    }
}
