import java.nio.file.Path;
import java.util.ArrayList;
import java.util.List;
import java.util.Set;
import java.util.TreeSet;
import java.util.regex.Matcher;
import java.util.regex.Pattern;

/** The calls that README.md shows answer what stands behind them, and it shows and explains all that there are. */
public final class ReadmeTest {
    private static final Pattern MADE = Pattern.compile("SpectrumDesk desk = new SpectrumDesk\\(\\);");
    private static final Pattern CALL = Pattern.compile("desk\\.(\\w+)\\(([-\\d, ]*)\\);(?: +// (.+))?");
    private static final Pattern CONSTANT = Pattern.compile("`(\\w+)` \\((-\\d+)\\)");
    private static final Due due = new Due();
    private static final Script script = new Script(due);

    public static void main(String[] args) {
        Markdown readme = new Markdown(Path.of(args.length > 0 ? args[0] : "README.md"));
        List<String> shown = new ArrayList<>();
        readme.code.forEach((heading, lines) -> {
            SpectrumDesk desk = null;
            for (String line : lines) {
                desk = MADE.matcher(line).matches() ? new SpectrumDesk() : called(desk, line, heading, shown);
            }
        });
        due.yes("README.md shows examples", shown.size() > 40);
        showsAll(shown);
        explainsAll(readme);
        due.end();
    }

    private static SpectrumDesk called(SpectrumDesk desk, String line, String heading, List<String> shown) {
        Matcher told = CALL.matcher(line);
        if (!told.matches() || desk == null) {
            due.yes(heading + ": a call on an object that was made: " + line, false);
            return desk;
        }
        String call = told.group(1) + "(" + told.group(2) + ")" + due(told.group(1), told.group(3));
        shown.add(call);
        return script.goOn(desk, call);
    }

    /** The answer stands before the colon; what answers nothing may have any words behind it. */
    private static String due(String name, String words) {
        String answer = words == null ? "" : words.split(": ")[0];
        if (answer.startsWith("throws ")) {
            return " " + answer;
        }
        return name.equals("make") || name.equals("put") ? "" : " = " + answer;
    }

    private static void showsAll(List<String> shown) {
        Set<String> names = new TreeSet<>();
        Set<String> ends = new TreeSet<>();
        for (String call : shown) {
            names.add(call.substring(0, call.indexOf('(')));
            ends.add(call.substring(call.lastIndexOf(' ') + 1));
        }
        due.same("calls shown", names.toString(), new TreeSet<>(Calls.NAMES).toString());
        for (String end : List.of("NONE", "LARGE", "IllegalArgumentException", "IndexOutOfBoundsException")) {
            due.yes(end + " is shown", ends.contains(end));
        }
    }

    private static void explainsAll(Markdown readme) {
        String text = String.join("\n", readme.prose.get("What the answers mean"));
        for (int op = 0; op < Calls.NAMES.size(); op++) {
            Matcher row = Pattern.compile("\\| `" + Calls.NAMES.get(op) + "\\(([^)]*)\\)` \\|").matcher(text);
            boolean found = row.find();
            due.yes(Calls.NAMES.get(op) + " is explained", found);
            int arguments = !found || row.group(1).isEmpty() ? 0 : row.group(1).split(", ").length;
            due.same("arguments of " + Calls.NAMES.get(op), arguments, Calls.ARGUMENTS[op]);
        }
        Matcher constant = CONSTANT.matcher(text);
        StringBuilder constants = new StringBuilder();
        while (constant.find()) {
            constants.append(constant.group(1)).append(constant.group(2)).append(' ');
        }
        due.same("constants", constants.toString(), "NONE-1 LARGE-2 ");
    }
}
