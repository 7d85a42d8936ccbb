/**
 * The sentences of the document that name a boundary case, of promises 1 to 10: the last input that is taken,
 * the first one that is not, the ends of int, and that what is refused has changed nothing.
 */
public final class EdgesTest {
    private static final Due due = new Due();
    private static final Edges edges = new Edges(due);
    private static final int MOST = Edges.MOST;
    private static final int LEAST = Edges.LEAST;

    public static void main(String[] args) {
        newObjectIsEmpty();
        makeTakesOneToSix();
        makeLeavesNothingButWhatWasPrinted();
        putTakesRowsAndColumnsThatThereAre();
        putTakesUpToOneMillion();
        putLooksAtThePlaceFirst();
        atAnswersWhatThereIs();
        sizeKnowsTwo();
        dataTakesUpToOneThousand();
        dataLooksAtTheFirstNumbersOnly();
        dataTakesOneHundredRows();
        spreadWithoutData();
        spreadTakesUpToOneMillion();
        spreadDoesNotWrapAround();
        spreadRefusesForAnyOne();
        shiftTakesUpToOneMillion();
        shiftDoesNotWrapAround();
        shiftRefusesForAnyOne();
        characteristicNumbersThereAre();
        characteristicRefusedPrintsNothing();
        characteristicAtItsLongest();
        charactersThereAre();
        charactersStay();
        due.end();
    }

    /** Promise 1: "One row and column with 0; no data, nothing printed." */
    private static void newObjectIsEmpty() {
        SpectrumDesk desk = new SpectrumDesk();
        edges.taken(desk, "1", "size", 0);
        edges.taken(desk, "0", "size", 1);
        edges.taken(desk, "0", "at", 0, 0);
        for (int i : new int[] {0, 1, -1, MOST, LEAST}) {
            edges.taken(desk, Edges.NONE, "character", i);
        }
        edges.taken(desk, "0", "cell", 0, 0);
        edges.taken(desk, "0", "cell", 0, 30);
        edges.taken(desk, "1", "multiplicity", 0);
        edges.taken(desk, "1", "distinct");
        edges.taken(desk, "true", "whole", 0);
        edges.taken(desk, "0", "apart");
        edges.taken(desk, "1", "check");
        edges.taken(desk, "1", "count", 1, 0, 1, 1);
        edges.taken(desk, "0", "spread");
        edges.taken(desk, "1", "data", 1000, 0, 0, 0, 0, 0);
        edges.refused(SpectrumDesk::new, Calls.INDEX, "at", 0, 1);
        edges.refused(SpectrumDesk::new, Calls.INDEX, "at", 1, 0);
        edges.refused(SpectrumDesk::new, Calls.INDEX, "put", 1, 1, 0);
        edges.refused(SpectrumDesk::new, Calls.INDEX, "cell", 1, 0);
        edges.refused(SpectrumDesk::new, Calls.INDEX, "multiplicity", 1);
        edges.refused(SpectrumDesk::new, Calls.INDEX, "whole", 1);
        edges.refused(SpectrumDesk::new, Calls.ILLEGAL, "count", 2, 0, 1, 0);
        edges.refused(SpectrumDesk::new, Edges.NONE, "characteristic", 2);
    }

    /** Promise 2: "IllegalArgumentException when n is not 1 .. 6." */
    private static void makeTakesOneToSix() {
        for (int n = 1; n <= 6; n++) {
            int rows = n;
            SpectrumDesk desk = Edges.ordinary(7 - n);
            edges.taken(desk, Calls.DONE, "make", n);
            edges.taken(desk, "" + n, "size", 0);
            edges.taken(desk, "0", "at", n - 1, n - 1);
            edges.taken(desk, Calls.INDEX, "at", n, n);
            for (int wrong : new int[] {0, 7, -1, 8, MOST, LEAST, LEAST + 1}) {
                edges.refused(() -> Edges.ordinary(rows), Calls.ILLEGAL, "make", wrong);
                edges.refused(() -> Edges.full(rows), Calls.ILLEGAL, "make", wrong);
            }
        }
        edges.refused(SpectrumDesk::new, Calls.ILLEGAL, "make", 0);
        edges.refused(SpectrumDesk::new, Calls.ILLEGAL, "make", 7);
    }

    /** Promise 2: "The matrix has n rows and columns, all 0; there are no data; what was printed stays." */
    private static void makeLeavesNothingButWhatWasPrinted() {
        for (int before = 1; before <= 6; before++) {
            for (int n = 1; n <= 6; n++) {
                SpectrumDesk made = Edges.full(before);
                String printed = Due.printed(made);
                made.multiplicity(0);
                made.make(n);
                due.same("printed before make(" + n + ")", Due.printed(made), printed);
                SpectrumDesk fresh = new SpectrumDesk();
                fresh.make(n);
                // Printing the same makes the two alike but for what make should have taken away.
                made.characteristic(n);
                fresh.characteristic(n);
                due.same("make(" + n + ") after " + before + " rows", Edges.allOf(made), Edges.allOf(fresh));
            }
        }
    }

    /** Promise 3: "IndexOutOfBoundsException when there is no such row or column". */
    private static void putTakesRowsAndColumnsThatThereAre() {
        for (int n = 1; n <= 6; n++) {
            int rows = n;
            SpectrumDesk desk = Edges.ordinary(n);
            edges.taken(desk, Calls.DONE, "put", n - 1, 0, 77);
            edges.taken(desk, "77", "at", 0, n - 1);
            edges.taken(desk, Calls.DONE, "put", 0, n - 1, -78);
            edges.taken(desk, "-78", "at", n - 1, 0);
            edges.taken(desk, Calls.DONE, "put", n - 1, n - 1, 79);
            edges.taken(desk, "79", "at", n - 1, n - 1);
            for (int wrong : new int[] {n, -1, 6, 7, MOST, LEAST}) {
                edges.refused(() -> Edges.ordinary(rows), Calls.INDEX, "put", wrong, 0, 1);
                edges.refused(() -> Edges.ordinary(rows), Calls.INDEX, "put", 0, wrong, 1);
                edges.refused(() -> Edges.ordinary(rows), Calls.INDEX, "put", wrong, wrong, 1);
            }
        }
    }

    /** Promise 3: "IllegalArgumentException when v is too large." */
    private static void putTakesUpToOneMillion() {
        SpectrumDesk desk = Edges.ordinary(6);
        for (int v : new int[] {1000000, -1000000, 0}) {
            edges.taken(desk, Calls.DONE, "put", 5, 5, v);
            edges.taken(desk, "" + v, "at", 5, 5);
            edges.taken(desk, Calls.DONE, "put", 5, 2, v);
            edges.taken(desk, "" + v, "at", 2, 5);
        }
        for (int wrong : new int[] {1000001, -1000001, MOST, LEAST, LEAST + 1}) {
            edges.refused(() -> Edges.ordinary(6), Calls.ILLEGAL, "put", 5, 5, wrong);
            edges.refused(() -> Edges.ordinary(6), Calls.ILLEGAL, "put", 2, 5, wrong);
            edges.refused(SpectrumDesk::new, Calls.ILLEGAL, "put", 0, 0, wrong);
        }
    }

    /** Promise 3 names the place before the number: where both are wrong, it is the place that is told. */
    private static void putLooksAtThePlaceFirst() {
        edges.refused(() -> Edges.ordinary(3), Calls.INDEX, "put", 3, 0, 1000001);
        edges.refused(() -> Edges.ordinary(3), Calls.INDEX, "put", 0, -1, LEAST);
        edges.refused(() -> Edges.ordinary(3), Calls.INDEX, "put", MOST, LEAST, MOST);
    }

    /** Promise 4: "IndexOutOfBoundsException when there is none such." */
    private static void atAnswersWhatThereIs() {
        for (int n = 1; n <= 6; n++) {
            int rows = n;
            SpectrumDesk desk = Due.diagonal(new int[n]);
            desk.put(n - 1, 0, 1000000);
            edges.taken(desk, "1000000", "at", n - 1, 0);
            edges.taken(desk, "1000000", "at", 0, n - 1);
            for (int wrong : new int[] {n, -1, 6, 7, MOST, LEAST}) {
                edges.refused(() -> Edges.ordinary(rows), Calls.INDEX, "at", wrong, 0);
                edges.refused(() -> Edges.ordinary(rows), Calls.INDEX, "at", 0, wrong);
                edges.refused(() -> Edges.ordinary(rows), Calls.INDEX, "at", wrong, wrong);
            }
        }
    }

    /** Promise 5: "NONE for others." */
    private static void sizeKnowsTwo() {
        edges.taken(Edges.ordinary(1), "1", "size", 0);
        edges.taken(Edges.ordinary(6), "6", "size", 0);
        edges.taken(Edges.ordinary(6), "3", "size", 1);
        edges.taken(Edges.full(6), "100", "size", 1);
        for (int wrong : new int[] {2, -1, 3, MOST, LEAST}) {
            edges.refused(SpectrumDesk::new, Edges.NONE, "size", wrong);
            edges.refused(() -> Edges.ordinary(4), Edges.NONE, "size", wrong);
            edges.refused(() -> Edges.full(6), Edges.NONE, "size", wrong);
        }
    }

    /** Promise 6: "NONE, and nothing is done, when one of these is too large". */
    private static void dataTakesUpToOneThousand() {
        for (int n = 1; n <= 6; n++) {
            int rows = n;
            for (int place = 0; place < n; place++) {
                long[] row = {9, 8, 7, 6, 5, 4};
                SpectrumDesk desk = Edges.ordinary(n);
                row[place] = 1000;
                edges.taken(desk, "4", "data", row);
                row[place] = -1000;
                edges.taken(desk, "5", "data", row);
                for (int wrong : new int[] {1001, -1001, MOST, LEAST, LEAST + 1}) {
                    row[place] = wrong;
                    edges.refused(() -> Edges.ordinary(rows), Edges.NONE, "data", row);
                }
            }
        }
    }

    /** Promise 6: "of its first n numbers": what stands behind them is not looked at, however large. */
    private static void dataLooksAtTheFirstNumbersOnly() {
        for (int n = 1; n <= 5; n++) {
            for (int other : new int[] {1001, -1001, MOST, LEAST}) {
                long[] row = {other, other, other, other, other, other};
                SpectrumDesk desk = Edges.ordinary(n);
                SpectrumDesk twin = Edges.ordinary(n);
                for (int i = 0; i < n; i++) {
                    row[i] = i;
                }
                edges.taken(desk, "4", "data", row);
                twin.data(0, 1, 2, 3, 4, 5);
                due.same("only " + n + " numbers count", Edges.allOf(desk), Edges.allOf(twin));
            }
        }
    }

    /** Promise 6: "NONE, and nothing is done, when .. there are 100." */
    private static void dataTakesOneHundredRows() {
        for (int n = 1; n <= 6; n += 5) {
            int rows = n;
            SpectrumDesk desk = new SpectrumDesk();
            desk.make(n);
            for (int i = 1; i <= 100; i++) {
                edges.taken(desk, "" + i, "data", 1000, -1000, 1000, -1000, 1000, -1000);
            }
            edges.taken(desk, Edges.NONE, "data", 0, 0, 0, 0, 0, 0);
            edges.taken(desk, "100", "size", 1);
            edges.taken(desk, "0", "spread");
            edges.taken(desk, "0", "at", n - 1, n - 1);
            edges.taken(desk, Calls.DONE, "make", n);
            edges.taken(desk, "1", "data", 0, 0, 0, 0, 0, 0);
            edges.refused(() -> Edges.full(rows), Edges.NONE, "data", 0, 0, 0, 0, 0, 0);
            edges.refused(() -> Edges.full(rows), Edges.NONE, "data", 1000, 1000, 1000, 1000, 1000, 1000);
            edges.refused(() -> Edges.full(rows), Edges.NONE, "data", 1001, LEAST, MOST, 0, 0, 0);
        }
    }

    /** Promise 7: "(without data all its numbers are 0)". */
    private static void spreadWithoutData() {
        for (int n = 1; n <= 6; n++) {
            SpectrumDesk desk = Edges.even(n, 1000000);
            SpectrumDesk zeros = new SpectrumDesk();
            zeros.make(n);
            desk.cell(n - 1, 30);
            edges.taken(desk, "0", "spread");
            due.same("spread without data", Edges.allOf(desk), Edges.allOf(zeros));
        }
    }

    /** Promise 7: "LARGE, and nothing is done, when a number of it would be too large." */
    private static void spreadTakesUpToOneMillion() {
        SpectrumDesk desk = new SpectrumDesk();
        desk.make(2);
        desk.data(500, -500, 0, 0, 0, 0);
        desk.data(-500, 500, 0, 0, 0, 0);
        edges.taken(desk, "0", "spread");
        due.same("the largest and the least", Due.matrixOf(desk), "[1000000, -1000000, -1000000, 1000000]");
        SpectrumDesk below = spreading(-195, 44, -101, 68, 195, 49, -153, 80);
        edges.taken(below, "0", "spread");
        edges.taken(below, "999999", "at", 0, 0);
        // Six times the sum of squares less the square of the sum: 1000001.
        edges.refused(() -> spreading(4, 3, 134, -28, 101, -377), Edges.LARGE, "spread");
        edges.refused(() -> spreading(251, -13, 112, -75, 221, -147, -57), Edges.LARGE, "spread");
        edges.refused(() -> spreading(500, -501), Edges.LARGE, "spread");
        edges.refused(() -> spreading(1000, -1000), Edges.LARGE, "spread");
    }

    /** One row and column with 77, c0 printed, and these data. */
    private static SpectrumDesk spreading(int... values) {
        SpectrumDesk desk = Due.diagonal(77);
        desk.characteristic(0);
        for (int v : values) {
            desk.data(v, 0, 0, 0, 0, 0);
        }
        return desk;
    }

    /** 33 * 33 * 1986^2 is 2^32 + 262148; 50 * 50 * 2000^2, the largest spread of all, is 10^10. */
    private static void spreadDoesNotWrapAround() {
        int[] twice = new int[66];
        int[] largest = new int[100];
        for (int i = 0; i < 100; i++) {
            largest[i] = i % 2 == 0 ? 1000 : -1000;
            twice[i % 66] = i % 2 == 0 ? 993 : -993;
        }
        edges.refused(() -> spreading(twice), Edges.LARGE, "spread");
        edges.refused(() -> spreading(largest), Edges.LARGE, "spread");
    }

    /** Promise 7: a single number of the diagonal, wherever it stands, is reason enough. */
    private static void spreadRefusesForAnyOne() {
        for (int place = 0; place < 6; place++) {
            int[] row = new int[6];
            row[place] = 501;
            edges.refused(() -> twoRows(row), Edges.LARGE, "spread");
            row[place] = 500;
            SpectrumDesk desk = twoRows(row);
            edges.taken(desk, "0", "spread");
            edges.taken(desk, "1000000", "at", place, place);
        }
    }

    /** An ordinary matrix with two rows of data that differ by 2 * row. */
    private static SpectrumDesk twoRows(int[] row) {
        SpectrumDesk desk = new SpectrumDesk();
        desk.make(6);
        desk.put(0, 5, 12);
        desk.put(3, 3, -4);
        desk.characteristic(1);
        desk.data(row[0], row[1], row[2], row[3], row[4], row[5]);
        desk.data(-row[0], -row[1], -row[2], -row[3], -row[4], -row[5]);
        return desk;
    }

    /** Promise 8: "LARGE, and nothing is done, when one would be too large." */
    private static void shiftTakesUpToOneMillion() {
        for (int n = 1; n <= 6; n++) {
            int rows = n;
            SpectrumDesk desk = Edges.even(n, -1000000);
            edges.taken(desk, "" + -1000000 * n, "cell", 0, 0);
            edges.taken(desk, "0", "shift", 2000000);
            edges.taken(desk, "" + (2000000 - 1000000 * n), "cell", 0, 0);
            edges.taken(desk, "1000000", "at", n - 1, n - 1);
            edges.taken(desk, n == 1 ? "1000000" : "-1000000", "at", 0, n - 1);
            edges.taken(desk, "0", "shift", -2000000);
            edges.taken(desk, "-1000000", "at", n - 1, n - 1);
            edges.taken(desk, "0", "shift", 0);
            edges.refused(() -> Edges.even(rows, -1000000), Edges.LARGE, "shift", 2000001);
            edges.refused(() -> Edges.even(rows, 1000000), Edges.LARGE, "shift", -2000001);
            edges.refused(() -> Edges.even(rows, -1000000), Edges.LARGE, "shift", -1);
            edges.refused(() -> Edges.even(rows, 1000000), Edges.LARGE, "shift", 1);
            edges.refused(() -> Edges.full(rows), Edges.LARGE, "shift", 1000100);
        }
    }

    /** The ends of int, where a sum of ints would come out small or with the other sign. */
    private static void shiftDoesNotWrapAround() {
        for (int v : new int[] {1000000, 1, 0, -1, -1000000}) {
            for (int wrong : new int[] {MOST, LEAST, LEAST + 1, MOST - 1000000, LEAST + 1000000}) {
                edges.refused(() -> Edges.even(2, v), Edges.LARGE, "shift", wrong);
            }
        }
    }

    /** Promise 8: a single number of the diagonal, wherever it stands, is reason enough; the others are no reason. */
    private static void shiftRefusesForAnyOne() {
        for (int place = 0; place < 6; place++) {
            int[] values = {1, -2, 3, -4, 5, -6};
            values[place] = 999991;
            edges.taken(Due.diagonal(values), "0", "shift", 9);
            edges.refused(() -> Due.diagonal(values), Edges.LARGE, "shift", 10);
            int[] negative = {1, -2, 3, -4, 5, -6};
            negative[place] = -999991;
            edges.taken(Due.diagonal(negative), "0", "shift", -9);
            edges.refused(() -> Due.diagonal(negative), Edges.LARGE, "shift", -10);
        }
        SpectrumDesk desk = Due.desk(Due.row(0, 1000000), Due.row(1000000, 0));
        edges.taken(desk, "0", "shift", 1);
        due.same("only the diagonal is more", Due.matrixOf(desk), "[1, 1000000, 1000000, 1]");
    }

    /** Promise 9: there are c0 to cn, and cn is 1. */
    private static void characteristicNumbersThereAre() {
        for (int n = 1; n <= 6; n++) {
            SpectrumDesk desk = Edges.ordinary(6);
            desk.make(n);
            for (int k = 0; k < n; k++) {
                edges.taken(desk, "1", "characteristic", k);
                edges.taken(desk, "" + (int) '0', "character", 0);
            }
            edges.taken(desk, "1", "characteristic", n);
            edges.taken(desk, "" + (int) '1', "character", 0);
            edges.taken(desk, Edges.NONE, "character", 1);
        }
    }

    /** Promise 9: "NONE, and what was printed stays, when there is no such k." */
    private static void characteristicRefusedPrintsNothing() {
        for (int n = 1; n <= 6; n++) {
            int rows = n;
            for (int wrong : new int[] {n + 1, -1, 7, MOST, LEAST}) {
                edges.refused(() -> Edges.ordinary(rows), Edges.NONE, "characteristic", wrong);
                edges.refused(() -> Due.diagonal(new int[rows]), Edges.NONE, "characteristic", wrong);
            }
        }
    }

    /** An order 6 conference matrix of millions has the largest determinant: 39 digits, and '-' here. */
    private static void characteristicAtItsLongest() {
        int a = 1000000;
        SpectrumDesk desk = Due.desk(Due.row(0, a, a, a, a, a), Due.row(a, 0, a, -a, -a, a),
            Due.row(a, a, 0, a, -a, -a), Due.row(a, -a, a, 0, a, -a), Due.row(a, -a, -a, a, 0, a),
            Due.row(a, a, -a, -a, a, 0));
        edges.taken(desk, "40", "characteristic", 0);
        edges.taken(desk, "" + (int) '-', "character", 0);
        edges.taken(desk, "" + (int) '1', "character", 1);
        edges.taken(desk, "" + (int) '0', "character", 39);
        edges.taken(desk, Edges.NONE, "character", 40);
        edges.taken(desk, "1", "characteristic", 6);
        edges.taken(desk, Edges.NONE, "character", 1);
        edges.taken(desk, Edges.NONE, "character", 39);
    }

    /** Promise 10: "NONE when there is none." */
    private static void charactersThereAre() {
        edges.taken(printed65(), "" + (int) '-', "character", 0);
        edges.taken(printed65(), "" + (int) '5', "character", 2);
        for (int wrong : new int[] {3, -1, 4, 60, 61, 62, MOST, LEAST}) {
            edges.refused(EdgesTest::printed65, Edges.NONE, "character", wrong);
        }
        for (int wrong : new int[] {0, 1, -1, 60, 61, 62, MOST, LEAST}) {
            edges.refused(SpectrumDesk::new, Edges.NONE, "character", wrong);
        }
    }

    private static SpectrumDesk printed65() {
        SpectrumDesk desk = Due.diagonal(27, 38);
        desk.characteristic(1);
        return desk;
    }

    /** Promises 2, 9 and 10: what was printed latest stays through every other call, taken or refused. */
    private static void charactersStay() {
        SpectrumDesk desk = printed65();
        String[] calls = {"distinct", "apart", "check", "spread"};
        for (String name : calls) {
            Calls.answer(desk, name);
            due.same("printed, after " + name, Due.printed(desk), "-65");
        }
        for (int v : new int[] {0, 1, -1, 3, 7, 1001, 1000001, MOST, LEAST}) {
            for (int op = 0; op < Calls.NAMES.size(); op++) {
                desk = printed65();
                boolean prints = Calls.NAMES.get(op).equals("characteristic") && v >= 0 && v <= 2;
                if (!prints) {
                    Calls.answer(desk, op, new long[] {v, v, v, v, v, v});
                    due.same("printed, after " + Calls.NAMES.get(op) + " of " + v, Due.printed(desk), "-65");
                }
            }
        }
    }
}
