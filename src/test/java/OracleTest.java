import java.math.BigInteger;
import java.util.Arrays;

/** Matrices of many kinds, all answers compared with the oracle's. Arguments: seed, how many of each kind. */
public final class OracleTest {
    private static final Due due = new Due();

    public static void main(String[] args) {
        long seed = args.length > 0 ? Long.parseLong(args[0]) : 1;
        int many = args.length > 1 ? Integer.parseInt(args[1]) : 25;
        Matrices matrices = new Matrices(seed);
        compareNearPairs(matrices);
        int[][] earlier = {{0}};
        for (int round = 0; round < many; round++) {
            for (int kind = 0; kind < Matrices.KINDS; kind++) {
                int n = kind < 4 ? 1 + matrices.below(6) : 2 + matrices.below(5);
                int[][] a = matrices.next(kind, n);
                if (fits(a)) {
                    compare(round % 4 == 0 ? Due.desk(a) : usedDesk(earlier, a), a, matrices);
                    earlier = a;
                }
            }
        }
        due.end();
    }

    /** What is left of an earlier matrix must not show. */
    private static SpectrumDesk usedDesk(int[][] earlier, int[][] a) {
        SpectrumDesk desk = Due.desk(earlier);
        desk.multiplicity(0);
        desk.apart();
        Due.fill(desk, a);
        return desk;
    }

    private static void compareNearPairs(Matrices matrices) {
        int[][][] pairs = {
            Matrices.nearPair(9873, 256733, 660185, 403159, 9124, -70000),
            Matrices.nearPair(155017, 378366, 122412, 267528, 102462, 0),
            Matrices.nearPair(679378, 414959, 626033, 162094, 51400, 1),
            Matrices.nearPair(746059, 607039, 114064, 769549, 355650, -2)
        };
        for (int[][] a : pairs) {
            SpectrumDesk desk = Due.desk(a);
            compare(desk, a, matrices);
            due.same(Arrays.deepToString(a) + " apart", desk.apart(), SpectrumDesk.NONE);
            due.same(Arrays.deepToString(a) + " distinct", desk.distinct(), 4);
        }
    }

    private static boolean fits(int[][] a) {
        for (int[] row : a) {
            for (int v : row) {
                if (Math.abs(v) > 1000000) {
                    return false;
                }
            }
        }
        return true;
    }

    private static void compare(SpectrumDesk desk, int[][] a, Matrices matrices) {
        int n = a.length;
        String name = Arrays.deepToString(a);
        Oracle oracle = new Oracle(a, n);
        for (int k = 0; k <= n; k++) {
            desk.characteristic(k);
            due.same(name + " characteristic " + k, Due.printed(desk), oracle.characteristic[k].toString());
        }
        due.same(name + " distinct", desk.distinct(), oracle.different());
        for (int i = 0; i < n; i++) {
            due.same(name + " multiplicity " + i, desk.multiplicity(i), oracle.multiplicity(i));
            due.same(name + " cell " + i, desk.cell(i, 30), oracle.cell(i, 30).longValueExact());
            int w = matrices.below(31);
            due.same(name + " cell " + i + " in " + w, desk.cell(i, w), oracle.cell(i, w).longValueExact());
            due.same(name + " whole " + i, desk.whole(i) ? 1 : 0, oracle.whole(i) ? 1 : 0);
        }
        due.same(name + " apart", desk.apart(), oracle.apart());
        due.same(name + " check", desk.check(), Oracle.check(a));
        for (int k = 1; k <= n; k++) {
            Oracle first = new Oracle(a, k);
            compareCounts(desk, first, k, name, first.cell(matrices.below(k), 0).longValueExact(), 1);
            int w = matrices.below(31);
            compareCounts(desk, first, k, name, first.cell(matrices.below(k), w).longValueExact() + 1, 1L << w);
            compareCounts(desk, first, k, name, nearest(first, matrices.below(k)), 1L << 40);
            compareCounts(desk, first, k, name, matrices.upTo(1 << 29), 1 + matrices.below(1 << 30));
        }
    }

    private static long nearest(Oracle oracle, int i) {
        return oracle.cell(i, 40).longValueExact();
    }

    private static void compareCounts(SpectrumDesk desk, Oracle oracle, int k, String name, long top, long bottom) {
        BigInteger t = BigInteger.valueOf(top);
        BigInteger b = BigInteger.valueOf(bottom);
        int less = oracle.below(t, b, false);
        int notMore = oracle.below(t, b, true);
        String call = name + " count " + k + " " + top + " / " + bottom + " way ";
        due.same(call + 0, desk.count(k, top, bottom, 0), less);
        due.same(call + 1, desk.count(k, top, bottom, 1), notMore - less);
        due.same(call + 2, desk.count(k, top, bottom, 2), k - notMore);
    }
}
