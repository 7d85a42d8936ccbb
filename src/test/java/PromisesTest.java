/**
 * The promises of the document, one after the other, sentence by sentence: ordinary inputs, the edges it names,
 * wrong inputs. The answers come from its words and from whole-number arithmetic by hand.
 */
public final class PromisesTest {
    private static final int NONE = -1;
    private static final int LARGE = -2;
    private static final Due due = new Due();
    private static final Document document = new Document(due);

    public static void main(String[] args) {
        newObject();
        make();
        put();
        at();
        size();
        data();
        spread();
        shift();
        characteristic();
        character();
        count();
        countOfExtremes();
        cell();
        multiplicity();
        multiplicityInOneCell();
        distinct();
        whole();
        apart();
        check();
        document.end("Promise ");
        due.end();
    }

    private static void newObject() {
        document.under("Promise 1: A new object");
        document.says("One row and column with 0; no data, nothing printed.");
        SpectrumDesk desk = new SpectrumDesk();
        due.same("new size(0)", desk.size(0), 1);
        due.same("new size(1)", desk.size(1), 0);
        due.same("new at(0, 0)", desk.at(0, 0), 0);
        due.same("new character(0)", desk.character(0), NONE);
        due.same("new distinct", desk.distinct(), 1);
        due.same("new cell", desk.cell(0, 30), 0);
        due.same("new check", new SpectrumDesk().check(), 1);
        SpectrumDesk other = new SpectrumDesk();
        other.put(0, 0, 7);
        due.same("objects share nothing", desk.at(0, 0), 0);
    }

    private static void make() {
        document.under("Promise 2: make");
        document.says("The matrix has n rows and columns, all 0; there are no data; what was printed stays.");
        SpectrumDesk desk = Due.desk(Due.row(1, 2), Due.row(2, 3));
        desk.data(1, 2, 0, 0, 0, 0);
        desk.characteristic(0);
        desk.make(3);
        due.same("made matrix", Due.matrixOf(desk), "[0, 0, 0, 0, 0, 0, 0, 0, 0]");
        due.same("made size(1)", desk.size(1), 0);
        due.same("what was printed stays", Due.printed(desk), "-1");
        due.same("made distinct", desk.distinct(), 1);
        due.same("data after make", desk.data(5, 6, 7, 0, 0, 0), 1);
        due.same("spread after make", desk.spread(), 0);
        due.same("one row has no spread", Due.matrixOf(desk), "[0, 0, 0, 0, 0, 0, 0, 0, 0]");
        document.says("IllegalArgumentException when n is not 1 .. 6.");
        for (int n : new int[] {0, -1, 7, Integer.MIN_VALUE, Integer.MAX_VALUE}) {
            due.illegal("make(" + n + ")", () -> desk.make(n));
        }
        due.same("what throws changes nothing: rows", desk.size(0), 3);
        due.same("what throws changes nothing: data", desk.size(1), 1);
        for (int n = 6; n >= 1; n--) {
            desk.make(n);
            due.same("size(0) after make", desk.size(0), n);
            desk.put(n - 1, 0, n);
        }
        desk.make(6);
        due.same("no number of an earlier matrix is left", desk.distinct(), 1);
        due.same("at(1, 0) after make", desk.at(1, 0), 0);
        due.same("at(5, 0) after make", desk.at(5, 0), 0);
    }

    private static void put() {
        document.under("Promise 3: put");
        document.says("A number of the matrix, and the one across the diagonal, become v.");
        SpectrumDesk desk = new SpectrumDesk();
        desk.make(3);
        desk.put(0, 2, 5);
        due.same("put", desk.at(0, 2), 5);
        due.same("put, across the diagonal", desk.at(2, 0), 5);
        desk.put(2, 0, -6);
        due.same("put again", desk.at(0, 2), -6);
        desk.put(1, 1, 1000000);
        desk.put(2, 1, -1000000);
        due.same("the largest", desk.at(1, 1), 1000000);
        due.same("the least", desk.at(1, 2), -1000000);
        String before = Due.matrixOf(desk);
        document.says("IndexOutOfBoundsException when there is no such row or column; IllegalArgumentException when v "
            + "is too large.");
        due.outOfBounds("put(3, 0, 1)", () -> desk.put(3, 0, 1));
        due.outOfBounds("put(0, 3, 1)", () -> desk.put(0, 3, 1));
        due.outOfBounds("put(-1, 0, 1)", () -> desk.put(-1, 0, 1));
        due.outOfBounds("put(0, -1, 1)", () -> desk.put(0, -1, 1));
        due.outOfBounds("put(5, 5, 1)", () -> desk.put(5, 5, 1));
        due.outOfBounds("put(max, min, 1)", () -> desk.put(Integer.MAX_VALUE, Integer.MIN_VALUE, 1));
        due.outOfBounds("the place is looked at first", () -> desk.put(3, 0, 1000001));
        for (int v : new int[] {1000001, -1000001, Integer.MAX_VALUE, Integer.MIN_VALUE}) {
            due.illegal("put(0, 0, " + v + ")", () -> desk.put(0, 0, v));
        }
        due.same("what throws changes nothing", Due.matrixOf(desk), before);
        SpectrumDesk seen = Due.diagonal(4);
        due.same("cell before put", seen.cell(0, 0), 4);
        seen.put(0, 0, 9);
        due.same("cell after put", seen.cell(0, 0), 9);
    }

    private static void at() {
        document.under("Promise 4: at");
        document.says("A number of the matrix.");
        SpectrumDesk desk = Due.desk(Due.row(1, 2, 3), Due.row(2, 4, 5), Due.row(3, 5, 6));
        due.same("all numbers", Due.matrixOf(desk), "[1, 2, 3, 2, 4, 5, 3, 5, 6]");
        document.says("IndexOutOfBoundsException when there is none such.");
        due.outOfBounds("at(3, 0)", () -> desk.at(3, 0));
        due.outOfBounds("at(0, 3)", () -> desk.at(0, 3));
        due.outOfBounds("at(-1, 0)", () -> desk.at(-1, 0));
        due.outOfBounds("at(0, -1)", () -> desk.at(0, -1));
        due.outOfBounds("at(6, 6)", () -> desk.at(6, 6));
        due.outOfBounds("at(min, max)", () -> desk.at(Integer.MIN_VALUE, Integer.MAX_VALUE));
    }

    private static void size() {
        document.under("Promise 5: size");
        document.says("How many rows the matrix has (what 0), the data have (1); NONE for others.");
        SpectrumDesk desk = new SpectrumDesk();
        desk.make(4);
        desk.data(1, 1, 1, 1, 1, 1);
        desk.data(2, 1, 1, 1, 1, 1);
        due.same("size(0)", desk.size(0), 4);
        due.same("size(1)", desk.size(1), 2);
        for (int what : new int[] {2, -1, 3, Integer.MAX_VALUE, Integer.MIN_VALUE}) {
            due.same("size(" + what + ")", desk.size(what), NONE);
        }
        desk.spread();
        due.same("the spread leaves the data", desk.size(1), 2);
    }

    private static void data() {
        document.under("Promise 6: data");
        document.says("One more row of data, of its first n numbers: how many there are.");
        SpectrumDesk desk = new SpectrumDesk();
        desk.make(2);
        due.same("data", desk.data(1000, -1000, 1001, Integer.MIN_VALUE, 9999, Integer.MAX_VALUE), 1);
        document.says("NONE, and nothing is done, when one of these is too large, or there are 100.");
        due.same("data, first too large", desk.data(1001, 0, 0, 0, 0, 0), NONE);
        due.same("data, second too small", desk.data(0, -1001, 0, 0, 0, 0), NONE);
        due.same("data, least int", desk.data(Integer.MIN_VALUE, 0, 0, 0, 0, 0), NONE);
        due.same("nothing is done", desk.size(1), 1);
        due.same("the rows go on", desk.data(999, -999, 0, 0, 0, 0), 2);
        due.same("spread", desk.spread(), 0);
        due.same("only two rows counted", Due.matrixOf(desk), "[1, -1, -1, 1]");
        desk.make(6);
        for (int i = 0; i < 6; i++) {
            int[] a = new int[6];
            a[i] = 1001;
            due.same("number " + i + " too large", desk.data(a[0], a[1], a[2], a[3], a[4], a[5]), NONE);
            a[i] = 1000;
            due.same("number " + i + " at the edge", desk.data(a[0], a[1], a[2], a[3], a[4], a[5]), i + 1);
        }
        desk.make(1);
        for (int i = 1; i <= 100; i++) {
            due.same("data row " + i, desk.data(i % 3, 0, 0, 0, 0, 0), i);
        }
        due.same("data row 101", desk.data(1, 0, 0, 0, 0, 0), NONE);
        due.same("data row 101, too large", desk.data(1001, 0, 0, 0, 0, 0), NONE);
        due.same("100 rows", desk.size(1), 100);
        due.same("spread of 100 rows", desk.spread(), 0);
        // 34 ones, 33 twos, 33 zeros: 100 * (34 + 132) - 100 * 100
        due.same("spread of 100 rows is", desk.at(0, 0), 6600);
    }

    private static void spread() {
        document.under("Promise 7: spread");
        document.says("The matrix becomes the data's spread (without data all its numbers are 0): 0; LARGE, and "
            + "nothing is done, when a number of it would be too large.");
        SpectrumDesk desk = Due.desk(Due.row(1, 2), Due.row(2, 3));
        due.same("spread without data", desk.spread(), 0);
        due.same("without data all are 0", Due.matrixOf(desk), "[0, 0, 0, 0]");
        desk.data(3, 4, 0, 0, 0, 0);
        desk.data(-3, 2, 0, 0, 0, 0);
        desk.data(5, -7, 0, 0, 0, 0);
        desk.cell(0, 0);
        due.same("spread", desk.spread(), 0);
        due.same("the spread", Due.matrixOf(desk), "[104, -82, -82, 206]");
        due.same("cell of the spread", desk.cell(0, 0), 58);
        desk.make(1);
        desk.data(500, 0, 0, 0, 0, 0);
        desk.data(-500, 0, 0, 0, 0, 0);
        due.same("spread at the edge", desk.spread(), 0);
        due.same("the edge", desk.at(0, 0), 1000000);
        desk.make(1);
        desk.put(0, 0, 77);
        desk.data(500, 0, 0, 0, 0, 0);
        desk.data(-501, 0, 0, 0, 0, 0);
        due.same("spread too large", desk.spread(), LARGE);
        due.same("nothing is done", desk.at(0, 0), 77);
        due.same("the data stay", desk.size(1), 2);
        desk.make(2);
        desk.put(0, 1, 5);
        desk.data(1, 600, 0, 0, 0, 0);
        desk.data(2, -600, 0, 0, 0, 0);
        due.same("only the last too large", desk.spread(), LARGE);
        due.same("nothing at all is done", Due.matrixOf(desk), "[0, 5, 5, 0]");
        desk.make(1);
        for (int i = 0; i < 100; i++) {
            desk.data(i % 2 == 0 ? 1000 : -1000, 0, 0, 0, 0, 0);
        }
        due.same("10^10 does not wrap around", desk.spread(), LARGE);
    }

    private static void shift() {
        document.under("Promise 8: shift");
        document.says("All numbers on the diagonal are more by v: 0; LARGE, and nothing is done, when one would be "
            + "too large.");
        SpectrumDesk desk = Due.desk(Due.row(1, 2), Due.row(2, 3));
        desk.cell(0, 0);
        due.same("shift", desk.shift(-4), 0);
        due.same("shifted", Due.matrixOf(desk), "[-3, 2, 2, -1]");
        due.same("cell of the shifted", desk.cell(0, 0), -5);
        due.same("shift to the edge", desk.shift(-999997), 0);
        due.same("at the edge", Due.matrixOf(desk), "[-1000000, 2, 2, -999998]");
        due.same("shift over the edge", desk.shift(-1), LARGE);
        due.same("nothing is done", Due.matrixOf(desk), "[-1000000, 2, 2, -999998]");
        due.same("shift to the other edge", desk.shift(1999998), 0);
        due.same("at the other edge", Due.matrixOf(desk), "[999998, 2, 2, 1000000]");
        due.same("only the last too large", desk.shift(1), LARGE);
        due.same("nothing is done then", desk.at(0, 0), 999998);
        due.same("shift by the largest int", desk.shift(Integer.MAX_VALUE), LARGE);
        due.same("shift by the least int", desk.shift(Integer.MIN_VALUE), LARGE);
        due.same("shift by 0", desk.shift(0), 0);
        due.same("the sums do not wrap around", Due.matrixOf(desk), "[999998, 2, 2, 1000000]");
    }

    private static void print(SpectrumDesk desk, int k, String want) {
        due.same("characteristic(" + k + ")", desk.characteristic(k), want.length());
        due.same("printed " + k, Due.printed(desk), want);
    }

    private static void characteristic() {
        document.under("Promise 9: characteristic");
        document.says("Prints characteristic number k: '-' below 0, then its size in decimal: how many characters.");
        SpectrumDesk desk = Due.desk(Due.row(2, -1, 0), Due.row(-1, 2, -1), Due.row(0, -1, 2));
        print(desk, 0, "-4");
        print(desk, 1, "10");
        print(desk, 2, "-6");
        print(desk, 3, "1");
        print(desk, 0, "-4");
        document.says("NONE, and what was printed stays, when there is no such k.");
        for (int k : new int[] {4, -1, Integer.MAX_VALUE, Integer.MIN_VALUE}) {
            due.same("characteristic(" + k + ")", desk.characteristic(k), NONE);
            due.same("what was printed stays", Due.printed(desk), "-4");
        }
        print(new SpectrumDesk(), 0, "0");
        print(new SpectrumDesk(), 1, "1");
        SpectrumDesk large = Due.diagonal(-1000000, -1000000, -1000000, -1000000, -1000000, -1000000);
        print(large, 0, "1000000000000000000000000000000000000");
        print(large, 1, "6000000000000000000000000000000");
        print(large, 5, "6000000");
        large.shift(2000000);
        print(large, 1, "-6000000000000000000000000000000");
        // An order 6 conference matrix: the square is 5, so det(t - A) = (t^2 - 5 * 10^12)^3.
        int a = 1000000;
        int[][] conference = {{0, a, a, a, a, a}, {a, 0, a, -a, -a, a}, {a, a, 0, a, -a, -a},
            {a, -a, a, 0, a, -a}, {a, -a, -a, a, 0, a}, {a, a, -a, -a, a, 0}};
        SpectrumDesk edge = Due.desk(conference);
        print(edge, 0, "-125000000000000000000000000000000000000");
        print(edge, 2, "75000000000000000000000000");
        print(edge, 4, "-15000000000000");
        print(edge, 5, "0");
        print(edge, 6, "1");
    }

    private static void character() {
        document.under("Promise 10: character");
        document.says("Character i of what was printed latest; NONE when there is none.");
        SpectrumDesk desk = Due.diagonal(27, 38);
        due.same("before all printing", desk.character(0), NONE);
        desk.characteristic(1);
        due.same("character(0)", desk.character(0), '-');
        due.same("character(1)", desk.character(1), '6');
        due.same("character(2)", desk.character(2), '5');
        for (int i : new int[] {3, -1, 60, 1000, Integer.MAX_VALUE, Integer.MIN_VALUE}) {
            due.same("character(" + i + ")", desk.character(i), NONE);
        }
        desk.put(0, 0, 1);
        due.same("printed before, still there", Due.printed(desk), "-65");
        desk.characteristic(2);
        due.same("a shorter print leaves nothing of the longer", Due.printed(desk), "1");
    }

    private static void counts(SpectrumDesk desk, int k, long top, long bottom, int[] want) {
        for (int way = 0; way < 3; way++) {
            String call = "count(" + k + ", " + top + ", " + bottom + ", " + way + ")";
            due.same(call, desk.count(k, top, bottom, way), want[way]);
        }
    }

    private static void count() {
        document.under("Promise 11: count");
        document.says("Of the matrix of the first k rows and columns: how many eigenvalues are less than top / bottom "
            + "(way 0), equal to it (1), greater (2).");
        SpectrumDesk desk = Due.desk(Due.row(2, -1, 0), Due.row(-1, 2, -1), Due.row(0, -1, 2));
        counts(desk, 3, 2, 1, Due.row(1, 1, 1));
        counts(desk, 3, 6, 3, Due.row(1, 1, 1));
        counts(desk, 2, 2, 1, Due.row(1, 0, 1));
        counts(desk, 2, 3, 1, Due.row(1, 1, 0));
        counts(desk, 1, 2, 1, Due.row(0, 1, 0));
        counts(desk, 3, 1, 2, Due.row(0, 0, 3));
        counts(desk, 3, 3, 5, Due.row(1, 0, 2));
        counts(desk, 3, 0, 1, Due.row(0, 0, 3));
        counts(desk, 3, -1, 1, Due.row(0, 0, 3));
        SpectrumDesk signature = Due.diagonal(0, 5, -3, 0, -7, 0);
        counts(signature, 6, 0, 1, Due.row(2, 3, 1));
        counts(signature, 6, 0, Long.MAX_VALUE, Due.row(2, 3, 1));
        counts(signature, 4, 0, 1, Due.row(1, 2, 1));
        document.says("IllegalArgumentException when k is not 1 .. n, there is no such way, or bottom is not above 0.");
        for (int k : new int[] {0, 4, -1, Integer.MAX_VALUE, Integer.MIN_VALUE}) {
            due.illegal("count(" + k + ", ..)", () -> desk.count(k, 1, 1, 0));
        }
        for (int way : new int[] {-1, 3, Integer.MAX_VALUE, Integer.MIN_VALUE}) {
            due.illegal("count(.., " + way + ")", () -> desk.count(1, 1, 1, way));
        }
        for (long bottom : new long[] {0, -1, Long.MIN_VALUE}) {
            due.illegal("count(.., " + bottom + ", 0)", () -> desk.count(1, 1, bottom, 0));
        }
    }

    private static void countOfExtremes() {
        int a = 1000000;
        SpectrumDesk desk = new SpectrumDesk();
        desk.make(6);
        for (int i = 0; i < 36; i++) {
            desk.put(i / 6, i % 6, -a);
        }
        long most = Long.MAX_VALUE;
        counts(desk, 6, -6L * a, 1, Due.row(0, 1, 5));
        counts(desk, 6, -9223372036854000000L, 1537228672809L, Due.row(0, 1, 5));
        counts(desk, 6, -9223372036854000001L, 1537228672809L, Due.row(0, 0, 6));
        counts(desk, 6, -9223372036853999999L, 1537228672809L, Due.row(1, 0, 5));
        counts(desk, 6, most, most, Due.row(6, 0, 0));
        counts(desk, 6, 1, most, Due.row(6, 0, 0));
        counts(desk, 6, -1, most, Due.row(1, 0, 5));
        counts(desk, 6, most, 1, Due.row(6, 0, 0));
        counts(desk, 6, Long.MIN_VALUE, 1, Due.row(0, 0, 6));
        counts(desk, 6, Long.MIN_VALUE, most, Due.row(1, 0, 5));
        desk.shift(a);
        counts(desk, 6, most, most, Due.row(1, 0, 5));
        counts(desk, 6, Long.MIN_VALUE, 1, Due.row(0, 0, 6));
        SpectrumDesk one = Due.diagonal(-1);
        counts(one, 1, Long.MIN_VALUE, most, Due.row(0, 0, 1));
        counts(one, 1, -most, most, Due.row(0, 1, 0));
        counts(one, 1, 1 - most, most, Due.row(1, 0, 0));
    }

    private static void cell() {
        document.under("Promise 12: cell");
        document.says("The cell of eigenvalue i in the grid of w.");
        SpectrumDesk desk = Due.desk(Due.row(2, -1, 0), Due.row(-1, 2, -1), Due.row(0, -1, 2));
        long[][] want = {{0, 1, 2, 599, 628983398}, {2, 4, 8, 2048, 2147483648L}, {3, 6, 13, 3496, 3665983897L}};
        int[] grids = {0, 1, 2, 10, 30};
        for (int i = 0; i < 3; i++) {
            for (int g = 0; g < grids.length; g++) {
                due.same("cell(" + i + ", " + grids[g] + ")", desk.cell(i, grids[g]), want[i][g]);
            }
        }
        SpectrumDesk root = Due.desk(Due.row(0, 1), Due.row(1, 1));
        due.same("below 0 a cell lies below", root.cell(0, 0), -1);
        due.same("below 0, grid 1", root.cell(0, 1), -2);
        due.same("below 0, grid 30", root.cell(0, 30), -663608943);
        due.same("above 0, grid 30", root.cell(1, 30), 1737350766);
        int a = 1000000;
        SpectrumDesk wide = new SpectrumDesk();
        wide.make(6);
        for (int i = 0; i < 36; i++) {
            wide.put(i / 6, i % 6, a);
        }
        due.same("the largest", wide.cell(5, 30), 6000000L << 30);
        due.same("the others", wide.cell(4, 30), 0);
        document.says("IndexOutOfBoundsException when there is no such eigenvalue; IllegalArgumentException when "
            + "there is no such grid.");
        for (int i : new int[] {3, -1, 6, Integer.MAX_VALUE, Integer.MIN_VALUE}) {
            due.outOfBounds("cell(" + i + ", 0)", () -> desk.cell(i, 0));
            due.outOfBounds("cell(" + i + ", 31): the eigenvalue first", () -> desk.cell(i, 31));
        }
        for (int w : new int[] {31, -1, Integer.MAX_VALUE, Integer.MIN_VALUE}) {
            due.illegal("cell(0, " + w + ")", () -> desk.cell(0, w));
        }
    }

    private static void multiplicity() {
        document.under("Promise 13: multiplicity");
        document.says("The multiplicity of eigenvalue i.");
        SpectrumDesk desk = Due.diagonal(5, -3, 5, 7, -3, 5);
        due.same("multiplicities", Due.multiplicitiesOf(desk), "[2, 2, 3, 3, 3, 1]");
        due.same("all 0", Due.multiplicitiesOf(Due.diagonal(0, 0, 0, 0, 0, 0)), "[6, 6, 6, 6, 6, 6]");
        SpectrumDesk twice = Due.desk(Due.row(1, 0, 0, 1, 0, 0), Due.row(0, 1, 0, 0, 1, 0), Due.row(0, 0, 1, 0, 0, 1),
            Due.row(1, 0, 0, 0, 0, 0), Due.row(0, 1, 0, 0, 0, 0), Due.row(0, 0, 1, 0, 0, 0));
        due.same("a golden pair three times", Due.multiplicitiesOf(twice), "[3, 3, 3, 3, 3, 3]");
        SpectrumDesk cubic = Due.desk(Due.row(1, 1, 0, 0, 0, 0), Due.row(1, 2, 1, 0, 0, 0), Due.row(0, 1, 5, 0, 0, 0),
            Due.row(0, 0, 0, 1, 1, 0), Due.row(0, 0, 0, 1, 2, 1), Due.row(0, 0, 0, 0, 1, 5));
        due.same("a cubic twice", Due.multiplicitiesOf(cubic), "[2, 2, 2, 2, 2, 2]");
        due.same("near each other", Due.multiplicitiesOf(path(1)), "[1, 1, 1, 1, 1, 1]");
        document.says("IndexOutOfBoundsException when there is none such.");
        for (int i : new int[] {6, -1, Integer.MAX_VALUE, Integer.MIN_VALUE}) {
            due.outOfBounds("multiplicity(" + i + ")", () -> desk.multiplicity(i));
        }
        due.outOfBounds("multiplicity(1) of one row", () -> new SpectrumDesk().multiplicity(1));
    }

    /** Both ends 1000000, with four of -1000000 between them: the two largest differ by some 10^-25 if b is 1. */
    private static SpectrumDesk path(int b) {
        SpectrumDesk desk = Due.diagonal(1000000, -1000000, -1000000, -1000000, -1000000, 1000000);
        for (int i = 1; i < 6; i++) {
            desk.put(i - 1, i, b);
        }
        return desk;
    }

    /** A repeated eigenvalue 0 and one that differs from it by some 10^-12, above it or below. */
    private static void multiplicityInOneCell() {
        int a = 1000000;
        SpectrumDesk above = Due.desk(Due.row(0, 0, 0, 0, 0), Due.row(0, a, 1, 0, 0), Due.row(0, 1, 0, 1, 0),
            Due.row(0, 0, 1, -a + 1, 0), Due.row(0, 0, 0, 0, 0));
        due.same("all in one cell", above.cell(1, 30), 0);
        due.same("all in one cell, the third", above.cell(3, 30), 0);
        due.same("0, 0, a little more", Due.multiplicitiesOf(above), "[1, 2, 2, 1, 1]");
        due.no("a little more is not whole", above.whole(3));
        due.yes("0 is whole", above.whole(2));
        due.same("four are different", above.distinct(), 4);
        due.same("not apart in any grid", above.apart(), NONE);
        SpectrumDesk below = Due.desk(Due.row(0, 0, 0, 0, 0), Due.row(0, a - 1, 1, 0, 0), Due.row(0, 1, 0, 1, 0),
            Due.row(0, 0, 1, -a, 0), Due.row(0, 0, 0, 0, 0));
        due.same("a little less, 0, 0", Due.multiplicitiesOf(below), "[1, 1, 2, 2, 1]");
        due.same("a little less is in the cell below", below.cell(1, 30), -1);
        due.same("apart in grid 0", below.apart(), 0);
    }

    private static void distinct() {
        document.under("Promise 14: distinct");
        document.says("How many different eigenvalues there are.");
        due.same("distinct", Due.diagonal(5, -3, 5, 7, -3, 5).distinct(), 3);
        due.same("one", Due.diagonal(5, 5, 5, 5, 5, 5).distinct(), 1);
        due.same("six", Due.diagonal(1, 2, 3, 4, 5, 6).distinct(), 6);
        due.same("six, two of them near", path(1).distinct(), 6);
        due.same("far and near, 10^6", path(1000000).distinct(), 6);
        SpectrumDesk ones = new SpectrumDesk();
        ones.make(4);
        for (int i = 0; i < 16; i++) {
            ones.put(i / 4, i % 4, 1);
        }
        due.same("0 three times and 4", ones.distinct(), 2);
        ones.put(3, 3, 2);
        due.same("after a put", ones.distinct(), 3);
    }

    private static void whole() {
        document.under("Promise 15: whole");
        document.says("Whether eigenvalue i is a whole number.");
        SpectrumDesk desk = Due.desk(Due.row(2, -1, 0), Due.row(-1, 2, -1), Due.row(0, -1, 2));
        due.no("2 - root of 2", desk.whole(0));
        due.yes("2", desk.whole(1));
        due.no("2 + root of 2", desk.whole(2));
        due.yes("below 0", Due.diagonal(-3, 4).whole(0));
        due.yes("above 0", Due.diagonal(-3, 4).whole(1));
        due.no("the next whole number is another's", path(1).whole(5));
        document.says("IndexOutOfBoundsException when there is none such.");
        for (int i : new int[] {3, -1, Integer.MAX_VALUE, Integer.MIN_VALUE}) {
            due.outOfBounds("whole(" + i + ")", () -> desk.whole(i));
        }
    }

    private static void apart() {
        document.under("Promise 16: apart");
        document.says("The least grid w in which all eigenvalues that are not the same lie in different cells; NONE "
            + "when there is none up to 30.");
        due.same("one alone", new SpectrumDesk().apart(), 0);
        due.same("the same need no grid", Due.diagonal(3, 3, 3).apart(), 0);
        due.same("whole ones", Due.diagonal(3, 4, 5).apart(), 0);
        // 0 and 1 - and two between them, near 0.38 and 2.6
        SpectrumDesk desk = Due.desk(Due.row(0, 0, 0), Due.row(0, 1, 1), Due.row(0, 1, 2));
        due.same("0, 0.38 and 2.6", desk.apart(), 2);
        // 0 and root of (10^12 + 1) - 10^6, some 5 * 10^-7
        SpectrumDesk near = Due.desk(Due.row(0, 0, 0), Due.row(0, 0, 1), Due.row(0, 1, 1000000));
        due.same("less than 0 and 0", near.apart(), 0);
        near = Due.desk(Due.row(0, 0, 0), Due.row(0, 0, 1), Due.row(0, 1, -1000000));
        due.same("0 and a millionth", near.apart(), 20);
        near = Due.desk(Due.row(0, 0, 0, 0), Due.row(0, 1000000, 1, 0), Due.row(0, 1, 0, 1), Due.row(0, 0, 1, -999000));
        due.same("0 and a billionth", near.apart(), 30);
        near.put(3, 3, -999500);
        due.same("0 and half of that", near.apart(), NONE);
        due.same("near", path(1).apart(), NONE);
    }

    private static void check() {
        document.under("Promise 17: check");
        document.says("Whether the numbers on the diagonal, together, lie where the cells of all eigenvalues in the "
            + "grid of 30, together, say that their sum does; and, for each cell's edge and each k below n, "
            + "the first k rows and columns have no more eigenvalues below it than the whole matrix, and not "
            + "more than n - k fewer: 1; it would tell 0.");
        due.same("a new one", new SpectrumDesk().check(), 1);
        due.same("near", path(1).check(), 1);
        due.same("same", Due.diagonal(5, 5, 5, 2, 2, -7).check(), 1);
        due.same("far", path(-1000000).check(), 1);
        SpectrumDesk desk = Due.desk(Due.row(2, -1, 0), Due.row(-1, 2, -1), Due.row(0, -1, 2));
        due.same("check", desk.check(), 1);
        desk.shift(-1000000);
        due.same("check of the shifted", desk.check(), 1);
        due.same("check leaves the matrix", desk.at(0, 0), -999998);
        due.same("check prints nothing", desk.character(0), NONE);
    }
}
