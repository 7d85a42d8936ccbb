import java.util.Arrays;

/** Counts and prints the answers that are not as due. */
final class Due {
    interface Call {
        void run();
    }

    private int wrong = 0;
    private int asked = 0;

    void same(String what, long got, long want) {
        asked++;
        if (got != want) {
            wrong++;
            System.out.println(what + " answered " + got + ", due is " + want);
        }
    }

    void same(String what, String got, String want) {
        asked++;
        if (!got.equals(want)) {
            wrong++;
            System.out.println(what + " answered " + got + ", due is " + want);
        }
    }

    void yes(String what, boolean got) {
        same(what, got ? 1 : 0, 1);
    }

    void no(String what, boolean got) {
        same(what, got ? 1 : 0, 0);
    }

    /** The very class counts: one that extends it is wrong, too. */
    void thrown(String what, Class<? extends RuntimeException> want, Call call) {
        String got = "nothing";
        try {
            call.run();
        } catch (RuntimeException e) {
            got = e.getClass().getSimpleName();
        }
        same(what + " throws", got, want.getSimpleName());
    }

    void outOfBounds(String what, Call call) {
        thrown(what, IndexOutOfBoundsException.class, call);
    }

    void illegal(String what, Call call) {
        thrown(what, IllegalArgumentException.class, call);
    }

    void end() {
        System.out.println(asked + " answers, " + wrong + " not as due");
        if (wrong != 0) {
            System.exit(1);
        }
    }

    /** A desk with the matrix that has these rows; what stands below the diagonal is not looked at. */
    static SpectrumDesk desk(int[]... rows) {
        SpectrumDesk desk = new SpectrumDesk();
        fill(desk, rows);
        return desk;
    }

    static void fill(SpectrumDesk desk, int[]... rows) {
        desk.make(rows.length);
        for (int i = 0; i < rows.length; i++) {
            for (int j = i; j < rows.length; j++) {
                desk.put(i, j, rows[i][j]);
            }
        }
    }

    static SpectrumDesk diagonal(int... values) {
        SpectrumDesk desk = new SpectrumDesk();
        desk.make(values.length);
        for (int i = 0; i < values.length; i++) {
            desk.put(i, i, values[i]);
        }
        return desk;
    }

    static int[] row(int... values) {
        return values;
    }

    /** What was printed latest, read character by character up to the first NONE. */
    static String printed(SpectrumDesk desk) {
        StringBuilder text = new StringBuilder();
        int next = desk.character(0);
        while (next != SpectrumDesk.NONE) {
            text.append((char) next);
            next = desk.character(text.length());
        }
        return text.toString();
    }

    static String matrixOf(SpectrumDesk desk) {
        int n = desk.size(0);
        int[] all = new int[n * n];
        for (int i = 0; i < n; i++) {
            for (int j = 0; j < n; j++) {
                all[i * n + j] = desk.at(i, j);
            }
        }
        return Arrays.toString(all);
    }

    /** The matrix as one reads it, the rows parted by strokes. */
    static String rowsOf(SpectrumDesk desk) {
        int n = desk.size(0);
        StringBuilder text = new StringBuilder();
        for (int i = 0; i < n * n; i++) {
            text.append(i == 0 ? "" : i % n == 0 ? " / " : " ").append(desk.at(i / n, i % n));
        }
        return text.toString();
    }

    static String multiplicitiesOf(SpectrumDesk desk) {
        int[] all = new int[desk.size(0)];
        for (int i = 0; i < all.length; i++) {
            all[i] = desk.multiplicity(i);
        }
        return Arrays.toString(all);
    }
}
