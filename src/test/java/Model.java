import java.math.BigInteger;
import java.util.ArrayList;
import java.util.List;

/** The document once more, in its plainest form, on top of the oracle: slow, and nothing kept but the state. */
final class Model {
    private int[][] matrix = new int[1][1];
    private final List<int[]> given = new ArrayList<>();
    private String printed = "";
    private Oracle oracle;

    /** What the call number op (in the order of the public face) answers. */
    String answer(int op, long[] a) {
        int n = matrix.length;
        int i = (int) a[0];
        int j = (int) a[1];
        switch (op) {
            case 0: return make(i);
            case 1: return put(i, j, (int) a[2]);
            case 2: return isIndex(i) && isIndex(j) ? "" + matrix[i][j] : Calls.INDEX;
            case 3: return "" + (i == 0 ? n : i == 1 ? given.size() : -1);
            case 4: return data(a);
            case 5: return spread();
            case 6: return shift(i);
            case 7: return characteristic(i);
            case 8: return "" + (i >= 0 && i < printed.length() ? (int) printed.charAt(i) : -1);
            case 9: return count(i, a[1], a[2], (int) a[3]);
            case 10: return !isIndex(i) ? Calls.INDEX : j < 0 || j > 30 ? Calls.ILLEGAL : "" + oracle().cell(i, j);
            case 11: return isIndex(i) ? "" + oracle().multiplicity(i) : Calls.INDEX;
            case 12: return "" + oracle().different();
            case 13: return isIndex(i) ? "" + oracle().whole(i) : Calls.INDEX;
            case 14: return "" + oracle().apart();
            default: return "" + Oracle.check(matrix);
        }
    }

    int rows() {
        return matrix.length;
    }

    private boolean isIndex(int i) {
        return i >= 0 && i < matrix.length;
    }

    private Oracle oracle() {
        if (oracle == null) {
            oracle = new Oracle(matrix, matrix.length);
        }
        return oracle;
    }

    private static boolean isTooLarge(long v, long most) {
        return Math.abs(v) > most;
    }

    private String make(int n) {
        if (n < 1 || n > 6) {
            return Calls.ILLEGAL;
        }
        matrix = new int[n][n];
        given.clear();
        oracle = null;
        return Calls.DONE;
    }

    private String put(int i, int j, int v) {
        if (!isIndex(i) || !isIndex(j)) {
            return Calls.INDEX;
        }
        if (isTooLarge(v, 1000000)) {
            return Calls.ILLEGAL;
        }
        matrix[i][j] = v;
        matrix[j][i] = v;
        oracle = null;
        return Calls.DONE;
    }

    private String data(long[] a) {
        int[] row = new int[matrix.length];
        for (int i = 0; i < row.length; i++) {
            row[i] = (int) a[i];
            if (isTooLarge(row[i], 1000)) {
                return "-1";
            }
        }
        if (given.size() == 100) {
            return "-1";
        }
        given.add(row);
        return "" + given.size();
    }

    private String spread() {
        int n = matrix.length;
        int[][] next = new int[n][n];
        for (int i = 0; i < n; i++) {
            for (int j = 0; j < n; j++) {
                long products = 0;
                long left = 0;
                long right = 0;
                for (int[] row : given) {
                    products += row[i] * row[j];
                    left += row[i];
                    right += row[j];
                }
                long v = given.size() * products - left * right;
                if (isTooLarge(v, 1000000)) {
                    return "-2";
                }
                next[i][j] = (int) v;
            }
        }
        matrix = next;
        oracle = null;
        return "0";
    }

    private String shift(int v) {
        for (int i = 0; i < matrix.length; i++) {
            if (isTooLarge((long) matrix[i][i] + v, 1000000)) {
                return "-2";
            }
        }
        for (int i = 0; i < matrix.length; i++) {
            matrix[i][i] += v;
        }
        oracle = null;
        return "0";
    }

    private String characteristic(int k) {
        if (k < 0 || k > matrix.length) {
            return "-1";
        }
        printed = oracle().characteristic[k].toString();
        return "" + printed.length();
    }

    private String count(int k, long top, long bottom, int way) {
        if (k < 1 || k > matrix.length || way < 0 || way > 2 || bottom <= 0) {
            return Calls.ILLEGAL;
        }
        Oracle first = new Oracle(matrix, k);
        int less = first.below(BigInteger.valueOf(top), BigInteger.valueOf(bottom), false);
        int notMore = first.below(BigInteger.valueOf(top), BigInteger.valueOf(bottom), true);
        return "" + (way == 0 ? less : way == 1 ? notMore - less : k - notMore);
    }
}
