import java.util.Arrays;
import java.util.regex.Matcher;
import java.util.regex.Pattern;

/**
 * Runs of calls told as texts, each with the answer that is due: "size(0) = 1", "make(7) throws
 * IllegalArgumentException", or "make(2)" where there is no answer. An answer may be NONE, LARGE or a character in
 * quotes; "printed = .." and "matrix = .." ask for all that was printed latest and for all rows.
 */
final class Script {
    private static final Pattern LINE = Pattern.compile("(\\w+)(?:\\(([^)]*)\\))?(?: = (.*)| throws (\\w+))?");

    private final Due due;

    Script(Due due) {
        this.due = due;
    }

    /** The calls one after the other, on a new object. */
    SpectrumDesk run(String... lines) {
        return goOn(new SpectrumDesk(), lines);
    }

    SpectrumDesk goOn(SpectrumDesk desk, String... lines) {
        for (String line : lines) {
            Matcher told = LINE.matcher(line);
            if (!told.matches()) {
                throw new IllegalStateException("no call: " + line);
            }
            due.same(line + ":", answer(desk, told.group(1), told.group(2)), wanted(told));
        }
        return desk;
    }

    private static String answer(SpectrumDesk desk, String name, String arguments) {
        if (name.equals("printed")) {
            return Due.printed(desk);
        }
        return name.equals("matrix") ? Due.rowsOf(desk) : Calls.answer(desk, name, numbers(arguments));
    }

    private static long[] numbers(String arguments) {
        return arguments.isEmpty()
            ? new long[0]
            : Arrays.stream(arguments.split(", ")).mapToLong(Script::number).toArray();
    }

    private static long number(String text) {
        switch (text) {
            case "MAX": return Integer.MAX_VALUE;
            case "MIN": return Integer.MIN_VALUE;
            case "Long.MAX": return Long.MAX_VALUE;
            case "Long.MIN": return Long.MIN_VALUE;
            default: return Long.parseLong(text);
        }
    }

    private static String wanted(Matcher told) {
        if (told.group(4) != null) {
            return "throws." + told.group(4);
        }
        return told.group(3) == null ? Calls.DONE : answerMeant(told.group(3));
    }

    /** The constants by the document's numbers: those of the program might be wrong. */
    static String answerMeant(String text) {
        if (text.length() == 3 && text.startsWith("'") && text.endsWith("'")) {
            return "" + (int) text.charAt(1);
        }
        return text.equals("NONE") ? "-1" : text.equals("LARGE") ? "-2" : text;
    }
}
