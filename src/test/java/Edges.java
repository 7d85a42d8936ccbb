import java.util.Arrays;

/**
 * Calls at the edge of what is taken. One that is refused must leave its desk such that it can't be told from a
 * twin with the same past that never got the call.
 */
final class Edges {
    interface Start {
        SpectrumDesk desk();
    }

    static final int MOST = Integer.MAX_VALUE;
    static final int LEAST = Integer.MIN_VALUE;
    static final String NONE = "-1";
    static final String LARGE = "-2";

    private final Due due;

    Edges(Due due) {
        this.due = due;
    }

    void taken(SpectrumDesk desk, String want, String name, long... a) {
        due.same(Calls.told(name, a), Calls.answer(desk, name, a), want);
    }

    void refused(Start start, String want, String name, long... a) {
        tryBeside(start.desk(), start.desk(), want, name, a);
        // What a desk has found out about the eigenvalues and kept must not change, either.
        tryBeside(asked(start.desk()), asked(start.desk()), want, name, a);
    }

    private void tryBeside(SpectrumDesk desk, SpectrumDesk twin, String want, String name, long... a) {
        due.same(Calls.told(name, a), Calls.answer(desk, name, a), want);
        due.same(Calls.told(name, a) + " was refused: then all there is", allOf(desk), allOf(twin));
    }

    private static SpectrumDesk asked(SpectrumDesk desk) {
        desk.multiplicity(0);
        desk.apart();
        return desk;
    }

    /** All that the face shows: first what leaves the state alone, then the data, by what they spread to. */
    static String allOf(SpectrumDesk desk) {
        StringBuilder text = new StringBuilder();
        text.append(desk.size(0)).append(" rows, ").append(desk.size(1)).append(" of data, matrix ");
        text.append(Due.matrixOf(desk)).append(", printed '").append(Due.printed(desk)).append("'");
        text.append(", eigenvalues ").append(eigenvaluesOf(desk));
        desk.characteristic(0);
        text.append(", c0 ").append(Due.printed(desk));
        text.append(", spread ").append(desk.spread()).append(" ").append(Due.matrixOf(desk));
        text.append(", one more row ").append(desk.data(1, 2, 3, 4, 5, 6));
        text.append(", spread ").append(desk.spread()).append(" ").append(Due.matrixOf(desk));
        return text.toString();
    }

    private static String eigenvaluesOf(SpectrumDesk desk) {
        int n = desk.size(0);
        long[] cells = new long[n];
        for (int i = 0; i < n; i++) {
            cells[i] = desk.cell(i, 30);
        }
        return Arrays.toString(cells) + " multiplicities " + Due.multiplicitiesOf(desk) + " apart " + desk.apart();
    }

    /** A matrix of n rows with all kinds of numbers, three rows of data, and c0 printed. */
    static SpectrumDesk ordinary(int n) {
        SpectrumDesk desk = new SpectrumDesk();
        desk.make(n);
        for (int i = 0; i < n; i++) {
            for (int j = i; j < n; j++) {
                desk.put(i, j, 3 * i * i - 7 * j + i * j - 5);
            }
        }
        desk.data(1, -2, 3, 0, 9, -4);
        desk.data(4, 5, -6, 2, -8, 7);
        desk.data(-9, 8, 1, 6, 3, 2);
        desk.characteristic(0);
        return desk;
    }

    /** The same with 100 rows of data, all that there may be. */
    static SpectrumDesk full(int n) {
        SpectrumDesk desk = ordinary(n);
        for (int i = desk.size(1); i < 100; i++) {
            desk.data(i % 3, i % 4, i % 5, -i % 3, -i % 4, -i % 5);
        }
        return desk;
    }

    /** n rows with the same number everywhere: its n-fold is an eigenvalue, the others are 0. */
    static SpectrumDesk even(int n, int v) {
        SpectrumDesk desk = new SpectrumDesk();
        desk.make(n);
        for (int i = 0; i < n; i++) {
            for (int j = i; j < n; j++) {
                desk.put(i, j, v);
            }
        }
        return desk;
    }
}
