import java.util.Arrays;
import java.util.List;

/** The calls of the public face by their names or numbers, and what they answer as a text. */
final class Calls {
    static final String INDEX = "throws.IndexOutOfBoundsException";
    static final String ILLEGAL = "throws.IllegalArgumentException";
    static final String DONE = "";

    static final List<String> NAMES = List.of("make", "put", "at", "size", "data", "spread", "shift",
        "characteristic", "character", "count", "cell", "multiplicity", "distinct", "whole", "apart", "check");
    static final int[] ARGUMENTS = {1, 3, 2, 1, 6, 0, 1, 1, 1, 4, 2, 1, 0, 1, 0, 0};
    static final int MOST_ARGUMENTS = 6;

    private Calls() {
    }

    static String told(String name, long... a) {
        String list = Arrays.toString(a);
        return name + "(" + list.substring(1, list.length() - 1) + ")";
    }

    static String told(int op, long[] a) {
        return told(NAMES.get(op), Arrays.copyOf(a, ARGUMENTS[op]));
    }

    static String answer(SpectrumDesk desk, String name, long... a) {
        int op = NAMES.indexOf(name);
        if (op < 0 || ARGUMENTS[op] != a.length) {
            throw new IllegalStateException("no such call: " + told(name, a));
        }
        return answer(desk, op, Arrays.copyOf(a, MOST_ARGUMENTS));
    }

    /** An exception's very class is its name here: one that extends it, or any other, is told as what it is. */
    static String answer(SpectrumDesk desk, int op, long[] a) {
        try {
            return call(desk, op, a);
        } catch (RuntimeException e) {
            return "throws." + e.getClass().getSimpleName();
        }
    }

    private static String call(SpectrumDesk desk, int op, long[] a) {
        int i = (int) a[0];
        int j = (int) a[1];
        switch (op) {
            case 0: desk.make(i); return DONE;
            case 1: desk.put(i, j, (int) a[2]); return DONE;
            case 2: return "" + desk.at(i, j);
            case 3: return "" + desk.size(i);
            case 4: return "" + desk.data(i, j, (int) a[2], (int) a[3], (int) a[4], (int) a[5]);
            case 5: return "" + desk.spread();
            case 6: return "" + desk.shift(i);
            case 7: return "" + desk.characteristic(i);
            case 8: return "" + desk.character(i);
            case 9: return "" + desk.count(i, a[1], a[2], (int) a[3]);
            case 10: return "" + desk.cell(i, j);
            case 11: return "" + desk.multiplicity(i);
            case 12: return "" + desk.distinct();
            case 13: return "" + desk.whole(i);
            case 14: return "" + desk.apart();
            default: return "" + desk.check();
        }
    }
}
