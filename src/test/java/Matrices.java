import java.util.Random;

/** Symmetric matrices of many kinds, the same ones for the same seed. */
final class Matrices {
    static final int KINDS = 10;
    private final Random random;

    Matrices(long seed) {
        random = new Random(seed);
    }

    int below(int end) {
        return random.nextInt(end);
    }

    int upTo(int most) {
        return random.nextInt(2 * most + 1) - most;
    }

    int[][] next(int kind, int n) {
        switch (kind) {
            case 0: return any(n, 1);
            case 1: return any(n, 9);
            case 2: return any(n, 1000000);
            case 3: return extreme(n);
            case 4: return copies(n, new int[] {1, 5, 1000, 400000}[below(4)]);
            case 5: return path(n);
            case 6: return smallDeterminant(n);
            case 7: return reflected(n);
            case 8: return repeatedAndNear(n);
            default: return doubled(n);
        }
    }

    private int[][] any(int n, int most) {
        int[][] a = new int[n][n];
        for (int i = 0; i < n; i++) {
            for (int j = 0; j <= i; j++) {
                a[i][j] = a[j][i] = upTo(most);
            }
        }
        return a;
    }

    private int[][] extreme(int n) {
        int[][] a = any(n, 1);
        for (int i = 0; i < n; i++) {
            for (int j = 0; j < n; j++) {
                a[i][j] *= 1000000;
            }
        }
        return a;
    }

    /** Numbers that can be halved many times, and whatever comes of them all the more often. */
    private int[][] doubled(int n) {
        int times = 14 + below(5);
        int most = 1000000 >> times;
        int[][] a = below(2) == 0 ? any(n, most) : copies(n, most);
        for (int[] row : a) {
            for (int j = 0; j < n; j++) {
                row[j] <<= times;
            }
        }
        return a;
    }

    /** Blocks along the diagonal, some of them twice or more, the rows in any order. */
    private int[][] copies(int n, int most) {
        int[][] a = new int[n][n];
        int size = 1 + below(Math.min(3, n));
        int[][] block = below(3) == 0 ? smallDeterminant(size) : any(size, most);
        int from = 0;
        while (from + size <= n) {
            place(a, block, from);
            from += size;
            if (below(3) == 0) {
                block = any(size, most);
            }
        }
        if (from < n) {
            place(a, any(n - from, most), from);
        }
        return shuffled(a);
    }

    /** Two far ends of the same size: their eigenvalues are as near as can be. */
    private int[][] path(int n) {
        int[][] a = new int[n][n];
        int far = 1 + below(1000000);
        for (int i = 0; i < n; i++) {
            a[i][i] = i == 0 || i == n - 1 ? far : -far;
        }
        for (int i = 1; i < n; i++) {
            a[i][i - 1] = a[i - 1][i] = 1 + below(3);
        }
        return a;
    }

    /** L D L^T with ones and minus ones in D: the determinant is 1 in size, and some eigenvalue near 0. */
    private int[][] smallDeterminant(int n) {
        int[][] l = new int[n][n];
        int most = new int[] {2, 30, 400}[below(3)];
        for (int i = 0; i < n; i++) {
            l[i][i] = 1;
            for (int j = 0; j < i; j++) {
                l[i][j] = upTo(most);
            }
        }
        int[][] a = new int[n][n];
        for (int k = 0; k < n; k++) {
            int d = below(2) * 2 - 1;
            for (int i = 0; i < n; i++) {
                for (int j = 0; j < n; j++) {
                    a[i][j] += d * l[i][k] * l[j][k];
                }
            }
        }
        return shuffled(a);
    }

    /** v v - 2 u u^T: one eigenvalue n - 1 times, without zeros in the matrix. */
    private int[][] reflected(int n) {
        int[] u = new int[n];
        int square = 0;
        for (int i = 0; i < n; i++) {
            u[i] = upTo(300);
            square += u[i] * u[i];
        }
        int[][] a = new int[n][n];
        for (int i = 0; i < n; i++) {
            for (int j = 0; j < n; j++) {
                a[i][j] = (i == j ? square : 0) - 2 * u[i] * u[j];
            }
        }
        return a;
    }

    /** A determinant of 1 and zeros beside it: 0 is repeated, and another eigenvalue is near it. */
    private int[][] repeatedAndNear(int n) {
        int zeros = Math.min(n - 1, 2 + below(2));
        int[][] a = new int[n][n];
        int[][] b = smallDeterminant(n - zeros);
        place(a, b, zeros);
        int shift = upTo(300000);
        for (int i = 0; i < n; i++) {
            a[i][i] += shift;
        }
        return shuffled(a);
    }

    /**
     * Twice the eigenvalues y, -y with y^2 = a^2 + b^2 and once m + z, m - z with z^2 = c^2 + d^2: the numbers
     * are such that y is within 2^-54 of one of the latter, so that only a grid far finer than 30 parts them.
     */
    static int[][] nearPair(int a, int b, int m, int c, int d, int shift) {
        int[][] all = new int[6][6];
        int[][] twice = {{a + shift, b}, {b, shift - a}};
        int[][] once = {{m + c + shift, d}, {d, m - c + shift}};
        place(all, twice, 0);
        place(all, once, 2);
        place(all, twice, 4);
        return all;
    }

    private static void place(int[][] a, int[][] block, int from) {
        for (int i = 0; i < block.length; i++) {
            for (int j = 0; j < block.length; j++) {
                a[from + i][from + j] = block[i][j];
            }
        }
    }

    private int[][] shuffled(int[][] a) {
        int n = a.length;
        int[] order = new int[n];
        for (int i = 0; i < n; i++) {
            int j = below(i + 1);
            order[i] = order[j];
            order[j] = i;
        }
        int[][] b = new int[n][n];
        for (int i = 0; i < n; i++) {
            for (int j = 0; j < n; j++) {
                b[i][j] = a[order[i]][order[j]];
            }
        }
        return b;
    }
}
