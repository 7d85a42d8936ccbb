import java.io.IOException;
import java.nio.file.Files;
import java.nio.file.Path;
import java.util.LinkedHashMap;
import java.util.Map;
import java.util.Set;
import java.util.TreeSet;
import java.util.regex.Matcher;
import java.util.regex.Pattern;

/** The rules of LANGUAGE.md, as far as the program's text shows them; the number before each name is the rule's. */
public final class LanguageTest {
    private static final Pattern METHOD = Pattern.compile(
        "(?m)^( +)(?:(?:public|private|static|final) )*[\\w\\[\\]]+ (\\w+)\\(([^)]*)\\)[^;{}]*\\{");
    private static final Due due = new Due();
    private static String text;
    private static final Map<String, String> bodies = new LinkedHashMap<>();

    public static void main(String[] args) throws IOException {
        text = bare(Files.readString(Path.of("src/main/java/SpectrumDesk.java")));
        words();
        library();
        exceptions();
        statics();
        loops();
        methods();
        depth();
        due.end();
    }

    /** Without comments, and with every text and character made empty. */
    private static String bare(String source) {
        return source.replaceAll("(?s)/\\*.*?\\*/|//[^\\n]*", "").replaceAll("\"[^\"\\n]*\"", "\"\"")
            .replaceAll("'[^'\\n]*'", "''");
    }

    private static Set<String> found(String pattern) {
        Set<String> all = new TreeSet<>();
        Matcher matcher = Pattern.compile(pattern).matcher(text);
        while (matcher.find()) {
            all.add(matcher.group(matcher.groupCount()));
        }
        return all;
    }

    private static void none(String rule, String pattern) {
        due.same(rule + ": what there must not be", found(pattern).toString(), "[]");
    }

    private static void words() {
        none("no package", "\\bpackage\\b");
        none("2, no lambda or method reference", "->|::");
        none("3, no doubles here", "\\b(?:double|float)\\b");
        none("6", "\\b(?:finally|synchronized|assert|equals|hashCode|toString|getMessage|volatile)\\b");
        none("10, texts joined by +", "\"\" *\\+|\\+ *\"\"");
        due.yes("11, at most twelve classes", text.split("\\b(?:class|interface|enum|record) [A-Z]").length - 1 <= 12);
    }

    private static void library() {
        due.same("4, imports", found("import ([\\w.]+);").toString(), "[java.util.Arrays]");
        Set<String> allowed = Set.of("System.arraycopy", "Arrays.fill", "Arrays.copyOf", "Math.abs", "Math.max",
            "Math.min", "Integer.bitCount");
        Set<String> own = found("class (\\w+)");
        for (String call : found("\\b([A-Z]\\w*[a-z]\\w*\\.\\w+)\\(")) {
            due.yes("4, " + call, allowed.contains(call) || own.contains(call.substring(0, call.indexOf('.'))));
        }
        none("13", "\\b(?:Thread|Random|nanoTime|currentTimeMillis|getenv|getProperty|File|Files|Socket)\\b");
    }

    private static void exceptions() {
        due.same("6, what is thrown", found("throw ([^;]*)").toString(),
            "[new IllegalArgumentException(\"\"), new IndexOutOfBoundsException(\"\")]");
        none("6, nothing is caught", "\\b(?:try|catch)\\b");
    }

    private static void statics() {
        none("5, a static field that is not final", "\\bstatic (?!final)[\\w\\[\\]]+ \\w+ *[=;]");
        none("5, a static block", "\\bstatic *\\{");
    }

    private static void loops() {
        none("9, loops without a counter", "\\b(?:while|do)\\b");
        for (String head : found("\\bfor \\((.*)\\) \\{")) {
            boolean counts = head.matches(".+ = .+; \\w+ [<>]=? [^;]+; \\w+(\\+\\+|--)");
            due.yes("9, a counter against a bound: " + head, counts);
        }
        int loops = text.split("\\bfor\\b").length;
        due.same("9, loops that were looked at", text.split("\\bfor \\(.*\\) \\{").length, loops);
    }

    private static void methods() {
        Matcher head = METHOD.matcher(text);
        while (head.find()) {
            String name = head.group(2);
            int end = text.indexOf("\n" + head.group(1) + "}", head.end());
            String body = text.substring(head.end(), end + 1);
            due.yes(name + " is the name of one method alone", bodies.put(name, body) == null);
            due.yes("11, " + name + " is short", body.split("\n").length < 60);
            due.yes("11, " + name + " has few parameters", head.group(3).split(",").length <= 7);
        }
        due.yes("the methods were found", bodies.keySet().containsAll(Calls.NAMES) && bodies.size() > 50);
    }

    /** Rules 8 and 11: nothing calls itself, and at most eight calls stand open at once. */
    private static void depth() {
        for (String name : bodies.keySet()) {
            due.yes("11, calls open in " + name + ": " + deepest(name, 1), deepest(name, 1) <= 8);
        }
    }

    private static int deepest(String name, int open) {
        int most = open;
        Matcher call = Pattern.compile("\\b(\\w+)\\(").matcher(bodies.get(name));
        // What calls itself would go on for ever: ten is more than there may be.
        while (open < 10 && call.find()) {
            if (bodies.containsKey(call.group(1))) {
                most = Math.max(most, deepest(call.group(1), open + 1));
            }
        }
        return most;
    }
}
