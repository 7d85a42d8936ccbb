import java.util.Arrays;

/**
 * The sentences of the document that name a boundary case, of promises 11 to 17: the last input that is taken, the
 * first one that is not, the ends of int and long, and that what is refused has changed nothing.
 */
public final class SpectrumEdgesTest {
    private static final Due due = new Due();
    private static final Edges edges = new Edges(due);
    private static final int MOST = Edges.MOST;
    private static final int LEAST = Edges.LEAST;
    private static final int[] NO_INDEX = {-1, 6, 7, MOST, LEAST};

    public static void main(String[] args) {
        countTakesFirstRowsThatThereAre();
        countKnowsThreeWays();
        countTakesBottomsAboveZero();
        countRefusesForAnyOne();
        countOnBothSidesOfAnEigenvalue();
        countAtTheEndsOfLong();
        countOfTheLargest();
        cellTakesEigenvaluesThatThereAre();
        cellTakesGridsUpToThirty();
        cellLooksAtTheEigenvalueFirst();
        cellAtAnEdge();
        cellOfTheLargest();
        multiplicityTakesEigenvaluesThatThereAre();
        multiplicityFromOneToAll();
        multiplicityOfNeighbours();
        distinctFromOneToAll();
        wholeTakesEigenvaluesThatThereAre();
        wholeOrNearlyWhole();
        apartInTheLastGrid();
        apartInGridZero();
        checkOfAllEdges();
        due.end();
    }

    /** Promise 11: "IllegalArgumentException when k is not 1 .. n". */
    private static void countTakesFirstRowsThatThereAre() {
        for (int n = 1; n <= 6; n++) {
            int rows = n;
            SpectrumDesk desk = Due.diagonal(new int[n]);
            edges.taken(desk, "1", "count", 1, 0, 1, 1);
            edges.taken(desk, "" + n, "count", n, 0, 1, 1);
            for (int wrong : new int[] {0, n + 1, -1, 7, MOST, LEAST}) {
                for (int way = 0; way <= 2; way++) {
                    edges.refused(() -> Edges.ordinary(rows), Calls.ILLEGAL, "count", wrong, 0, 1, way);
                }
            }
        }
    }

    /** Promise 11: "IllegalArgumentException when .. there is no such way". */
    private static void countKnowsThreeWays() {
        edges.taken(Due.diagonal(-1, 0, 0, 1, 1, 1), "1", "count", 6, 0, 1, 0);
        edges.taken(Due.diagonal(-1, 0, 0, 1, 1, 1), "2", "count", 6, 0, 1, 1);
        edges.taken(Due.diagonal(-1, 0, 0, 1, 1, 1), "3", "count", 6, 0, 1, 2);
        for (int wrong : new int[] {-1, 3, MOST, LEAST}) {
            edges.refused(SpectrumDesk::new, Calls.ILLEGAL, "count", 1, 0, 1, wrong);
            edges.refused(() -> Edges.ordinary(4), Calls.ILLEGAL, "count", 4, 0, 1, wrong);
            edges.refused(() -> Edges.full(6), Calls.ILLEGAL, "count", 1, 0, Long.MAX_VALUE, wrong);
        }
    }

    /** Promise 11: "IllegalArgumentException when .. bottom is not above 0." */
    private static void countTakesBottomsAboveZero() {
        SpectrumDesk desk = Due.diagonal(-3, 0, 3);
        for (long bottom : new long[] {1, 2, 1L << 32, 1L << 62, Long.MAX_VALUE}) {
            edges.taken(desk, "1", "count", 3, 0, bottom, 0);
            edges.taken(desk, "1", "count", 3, 0, bottom, 1);
            edges.taken(desk, "2", "count", 3, -1, bottom, 2);
        }
        for (long wrong : new long[] {0, -1, LEAST, -1L << 32, Long.MIN_VALUE, Long.MIN_VALUE + 1}) {
            for (int way = 0; way <= 2; way++) {
                edges.refused(() -> Edges.ordinary(3), Calls.ILLEGAL, "count", 3, 1, wrong, way);
                edges.refused(SpectrumDesk::new, Calls.ILLEGAL, "count", 1, 0, wrong, way);
            }
        }
    }

    /** Promise 11: one of the three is reason enough, and so are two or three. */
    private static void countRefusesForAnyOne() {
        for (int wrong = 1; wrong < 8; wrong++) {
            int k = (wrong & 1) != 0 ? 4 : 3;
            int bottom = (wrong & 2) != 0 ? 0 : 1;
            int way = (wrong & 4) != 0 ? 3 : 2;
            edges.refused(() -> Edges.ordinary(3), Calls.ILLEGAL, "count", k, 5, bottom, way);
        }
        edges.refused(() -> Edges.full(6), Calls.ILLEGAL, "count", LEAST, Long.MIN_VALUE, Long.MIN_VALUE, LEAST);
        edges.refused(() -> Edges.full(6), Calls.ILLEGAL, "count", MOST, Long.MAX_VALUE, Long.MIN_VALUE, MOST);
    }

    private static void counts(SpectrumDesk desk, int k, long top, long bottom, int... want) {
        for (int way = 0; way <= 2; way++) {
            edges.taken(desk, "" + want[way], "count", k, top, bottom, way);
        }
    }

    /** Promise 11: "less than top / bottom", "equal to it", "greater", as near to an eigenvalue as a long may be. */
    private static void countOnBothSidesOfAnEigenvalue() {
        long bottom = Long.MAX_VALUE / 1000000;
        for (int v : new int[] {1000000, 999999, 1, 0, -1, -999999, -1000000}) {
            SpectrumDesk desk = Due.diagonal(v, v, v, v, v, v);
            counts(desk, 6, v * bottom - 1, bottom, 0, 0, 6);
            counts(desk, 6, v * bottom, bottom, 0, 6, 0);
            counts(desk, 6, v * bottom + 1, bottom, 6, 0, 0);
            counts(desk, 1, v * bottom - 1, bottom, 0, 0, 1);
            counts(desk, 1, v * bottom, bottom, 0, 1, 0);
            counts(desk, 1, v * bottom + 1, bottom, 1, 0, 0);
        }
        // The root of 2 lies between two neighbours among its best fractions: 2 * q^2 - p^2 is 1 or -1.
        SpectrumDesk root = Due.desk(Due.row(0, 0, 0), Due.row(0, 1, 1), Due.row(0, 1, -1));
        counts(root, 3, 1855077841, 1311738121, 2, 0, 1);
        counts(root, 3, 4478554083L, 3166815962L, 3, 0, 0);
        counts(root, 3, -1855077841, 1311738121, 1, 0, 2);
        counts(root, 3, -4478554083L, 3166815962L, 0, 0, 3);
    }

    private static void countAtTheEndsOfLong() {
        long most = Long.MAX_VALUE;
        long least = Long.MIN_VALUE;
        SpectrumDesk desk = Due.diagonal(-2, -1, -1, 0, 1, 1);
        counts(desk, 6, most, 1, 6, 0, 0);
        counts(desk, 6, least, 1, 0, 0, 6);
        counts(desk, 6, most, most, 4, 2, 0);
        counts(desk, 6, most - 1, most, 4, 0, 2);
        counts(desk, 6, most, most - 1, 6, 0, 0);
        counts(desk, 6, -most, most, 1, 2, 3);
        counts(desk, 6, least, most, 1, 0, 5);
        counts(desk, 6, least, 1L << 62, 0, 1, 5);
        counts(desk, 6, least + 1, 1L << 62, 1, 0, 5);
        counts(desk, 6, 1, most, 4, 0, 2);
        counts(desk, 6, 0, most, 3, 1, 2);
        counts(desk, 6, -1, most, 3, 0, 3);
    }

    /** Six rows of millions: the eigenvalue of largest size that there is, on either side of 0. */
    private static void countOfTheLargest() {
        long bottom = 1537228672809L;
        for (int side = -1; side <= 1; side += 2) {
            SpectrumDesk desk = Edges.even(6, side * 1000000);
            int below = side < 0 ? 1 : 6;
            counts(desk, 6, side * 6000000L, 1, below - 1, 1, 6 - below);
            counts(desk, 6, side * 6000000L * bottom, bottom, below - 1, 1, 6 - below);
            counts(desk, 6, side * 6000000L * bottom + 1, bottom, below, 0, 6 - below);
            counts(desk, 6, side * 6000000L * bottom - 1, bottom, below - 1, 0, 7 - below);
            counts(desk, 6, Long.MAX_VALUE, 1, 6, 0, 0);
            counts(desk, 6, Long.MIN_VALUE, 1, 0, 0, 6);
            counts(desk, 5, side * 5000000L, 1, side < 0 ? 0 : 4, 1, side < 0 ? 4 : 0);
        }
    }

    /** Promises 12, 13 and 15: "IndexOutOfBoundsException when there is no such eigenvalue", "none such". */
    private static void refusesIndices(int n, String name, long... others) {
        long[] a = new long[others.length + 1];
        System.arraycopy(others, 0, a, 1, others.length);
        for (int wrong : NO_INDEX) {
            a[0] = wrong;
            edges.refused(() -> Edges.ordinary(n), Calls.INDEX, name, a);
        }
        a[0] = n;
        edges.refused(() -> Edges.ordinary(n), Calls.INDEX, name, a);
        // A larger matrix came before: its eigenvalues are there no more.
        edges.refused(() -> smaller(n), Calls.INDEX, name, a);
    }

    private static SpectrumDesk smaller(int n) {
        SpectrumDesk desk = Edges.full(6);
        desk.apart();
        desk.make(n);
        desk.put(0, 0, 3);
        return desk;
    }

    /** Promise 12: "IndexOutOfBoundsException when there is no such eigenvalue". */
    private static void cellTakesEigenvaluesThatThereAre() {
        for (int n = 1; n <= 6; n++) {
            SpectrumDesk desk = Due.diagonal(Arrays.copyOf(Due.row(-4, 9, 2, 7, -1, 5), n));
            edges.taken(desk, "-4", "cell", 0, 0);
            edges.taken(desk, n == 1 ? "-4" : "9", "cell", n - 1, 0);
            refusesIndices(n, "cell", 0);
            refusesIndices(n, "cell", 30);
        }
    }

    /** Promise 12: "IllegalArgumentException when there is no such grid." */
    private static void cellTakesGridsUpToThirty() {
        SpectrumDesk desk = Due.diagonal(-1, 1);
        edges.taken(desk, "-1", "cell", 0, 0);
        edges.taken(desk, "-536870912", "cell", 0, 29);
        edges.taken(desk, "-1073741824", "cell", 0, 30);
        edges.taken(desk, "1", "cell", 1, 0);
        edges.taken(desk, "1073741824", "cell", 1, 30);
        for (int n = 1; n <= 6; n++) {
            int rows = n;
            for (int wrong : new int[] {-1, 31, 32, 63, 64, -2, MOST, LEAST}) {
                edges.refused(() -> Edges.ordinary(rows), Calls.ILLEGAL, "cell", 0, wrong);
                edges.refused(() -> Edges.ordinary(rows), Calls.ILLEGAL, "cell", rows - 1, wrong);
            }
        }
    }

    /** Promise 12 names the eigenvalue before the grid: where both are wrong, it is the eigenvalue that is told. */
    private static void cellLooksAtTheEigenvalueFirst() {
        for (int wrong : new int[] {-1, 31, MOST, LEAST}) {
            refusesIndices(3, "cell", wrong);
        }
    }

    /** The cell: "the greatest whole number k with k / 2^w at most e", for an e on an edge and close to one. */
    private static void cellAtAnEdge() {
        for (int w = 0; w <= 30; w++) {
            for (int v : new int[] {1000000, 1, 0, -1, -1000000}) {
                edges.taken(Due.diagonal(v), "" + ((long) v << w), "cell", 0, w);
            }
            edges.taken(near(1000000, -999999), "0", "cell", 1, w);
            edges.taken(near(1000000, -1000000), "0", "cell", 1, w);
            edges.taken(near(999999, -1000000), "-1", "cell", 1, w);
            edges.taken(shifted(near(999992, -999991), 8), "" + (8L << w), "cell", 1, w);
            edges.taken(shifted(near(999991, -999992), 8), "" + ((8L << w) - 1), "cell", 1, w);
            edges.taken(shifted(near(999992, -999991), -8), "" + (-8L << w), "cell", 1, w);
            edges.taken(shifted(near(999991, -999992), -8), "" + ((-8L << w) - 1), "cell", 1, w);
        }
    }

    /** With first and -last some 10^6 the middle eigenvalue is (first + last) / 10^12 or so. */
    private static SpectrumDesk near(int first, int last) {
        return Due.desk(Due.row(first, 1, 0), Due.row(1, 0, 1), Due.row(0, 1, last));
    }

    private static SpectrumDesk shifted(SpectrumDesk desk, int v) {
        desk.shift(v);
        return desk;
    }

    private static void cellOfTheLargest() {
        for (int w = 0; w <= 30; w++) {
            for (int n = 1; n <= 6; n++) {
                long most = 1000000L * n << w;
                edges.taken(Edges.even(n, 1000000), "" + most, "cell", n - 1, w);
                edges.taken(Edges.even(n, -1000000), "" + -most, "cell", 0, w);
            }
            edges.taken(Edges.even(6, 1000000), "0", "cell", 0, w);
            edges.taken(Edges.even(6, -1000000), "0", "cell", 5, w);
        }
    }

    /** Promise 13: "IndexOutOfBoundsException when there is none such." */
    private static void multiplicityTakesEigenvaluesThatThereAre() {
        for (int n = 1; n <= 6; n++) {
            edges.taken(Due.diagonal(new int[n]), "" + n, "multiplicity", 0);
            edges.taken(Due.diagonal(new int[n]), "" + n, "multiplicity", n - 1);
            refusesIndices(n, "multiplicity");
        }
    }

    /** Promises 13 and 14: all the same, all different, and each number between, for the largest and the least. */
    private static void multiplicityFromOneToAll() {
        for (int v : new int[] {1000000, 0, -1000000}) {
            for (int same = 1; same <= 6; same++) {
                int[] values = {v, v, v, v, v, v};
                for (int i = same; i < 6; i++) {
                    values[i] = v > 0 ? v - i : v + i;
                }
                SpectrumDesk desk = Due.diagonal(values);
                edges.taken(desk, "" + same, "multiplicity", v > 0 ? 5 : 0);
                edges.taken(desk, same == 6 ? "6" : "1", "multiplicity", v > 0 ? 0 : 5);
                edges.taken(desk, "" + (7 - same), "distinct");
            }
        }
    }

    /** "Some that are the same": those that are not, however near they are, are not counted with them. */
    private static void multiplicityOfNeighbours() {
        int a = 1000000;
        SpectrumDesk desk = Due.desk(Due.row(0, 0, 0, 0, 0, 0), Due.row(0, a, 1, 0, 0, 0), Due.row(0, 1, 0, 1, 0, 0),
            Due.row(0, 0, 1, 1 - a, 0, 0), Due.row(0, 0, 0, 0, 0, 0), Due.row(0, 0, 0, 0, 0, 0));
        due.same("three of 0 and one of 10^-12", Due.multiplicitiesOf(desk), "[1, 3, 3, 3, 1, 1]");
        desk.put(3, 3, -a);
        due.same("four of 0", Due.multiplicitiesOf(desk), "[1, 4, 4, 4, 4, 1]");
        desk.put(1, 1, a - 1);
        due.same("one of -10^-12 and three of 0", Due.multiplicitiesOf(desk), "[1, 1, 3, 3, 3, 1]");
    }

    private static void distinctFromOneToAll() {
        for (int n = 1; n <= 6; n++) {
            edges.taken(Edges.even(n, 0), "1", "distinct");
            edges.taken(Edges.even(n, 1000000), n == 1 ? "1" : "2", "distinct");
            edges.taken(Edges.even(n, -1000000), n == 1 ? "1" : "2", "distinct");
            edges.taken(Due.diagonal(Arrays.copyOf(Due.row(-1000000, 1000000, 0, 1, -1, 2), n)),
                "" + n, "distinct");
        }
    }

    /** Promise 15: "IndexOutOfBoundsException when there is none such." */
    private static void wholeTakesEigenvaluesThatThereAre() {
        for (int n = 1; n <= 6; n++) {
            edges.taken(Due.diagonal(new int[n]), "true", "whole", 0);
            edges.taken(Due.diagonal(new int[n]), "true", "whole", n - 1);
            refusesIndices(n, "whole");
        }
    }

    private static void wholeOrNearlyWhole() {
        edges.taken(near(1000000, -1000000), "true", "whole", 1);
        edges.taken(near(1000000, -999999), "false", "whole", 1);
        edges.taken(near(999999, -1000000), "false", "whole", 1);
        edges.taken(near(1000000, -1000000), "false", "whole", 0);
        edges.taken(Edges.even(6, 1000000), "true", "whole", 5);
        edges.taken(Edges.even(6, 1000000), "true", "whole", 0);
        edges.taken(Edges.even(6, -1000000), "true", "whole", 0);
    }

    /** 0 once more beside the matrix of near. */
    private static SpectrumDesk zeroAndNear(int first, int last) {
        return Due.desk(Due.row(first, 1, 0, 0), Due.row(1, 0, 1, 0), Due.row(0, 1, last, 0), Due.row(0, 0, 0, 0));
    }

    /** Promise 16: "NONE when there is none up to 30." 2^-30 is some 931.3 / 10^12. */
    private static void apartInTheLastGrid() {
        int a = 1000000;
        edges.taken(zeroAndNear(a, -998140), "29", "apart");
        edges.taken(zeroAndNear(a, -998141), "30", "apart");
        edges.taken(zeroAndNear(a, -999069), "30", "apart");
        edges.taken(zeroAndNear(a, -999069), "1", "cell", 2, 30);
        edges.refused(() -> zeroAndNear(a, -999070), Edges.NONE, "apart");
        edges.taken(zeroAndNear(a, -999070), "0", "cell", 2, 30);
        edges.refused(() -> zeroAndNear(a, -999999), Edges.NONE, "apart");
        // Now they are the same, and the same need not lie apart.
        edges.taken(zeroAndNear(a, -a), "0", "apart");
    }

    private static void apartInGridZero() {
        for (int n = 1; n <= 6; n++) {
            edges.taken(Edges.even(n, 0), "0", "apart");
            edges.taken(Edges.even(n, 1000000), "0", "apart");
            edges.taken(Edges.even(n, -1000000), "0", "apart");
        }
        // Next to each other, a whole number and one just below it lie in different cells of every grid.
        edges.taken(zeroAndNear(999999, -1000000), "0", "apart");
        edges.taken(zeroAndNear(999999, -1000000), "4", "distinct");
    }

    /** Promise 17: "1; it would tell 0." */
    private static void checkOfAllEdges() {
        for (int n = 1; n <= 6; n++) {
            edges.taken(Edges.even(n, 0), "1", "check");
            edges.taken(Edges.even(n, 1000000), "1", "check");
            edges.taken(Edges.even(n, -1000000), "1", "check");
            edges.taken(Edges.full(n), "1", "check");
        }
        edges.taken(zeroAndNear(1000000, -999999), "1", "check");
        edges.taken(zeroAndNear(1000000, -1000000), "1", "check");
    }
}
