import java.io.IOException;
import java.io.UncheckedIOException;
import java.nio.file.Files;
import java.nio.file.Path;
import java.util.ArrayList;
import java.util.LinkedHashMap;
import java.util.List;
import java.util.Map;

/** A text with headings: the lines below each of them, and the lines of code apart from the others. */
final class Markdown {
    final Map<String, List<String>> prose = new LinkedHashMap<>();
    final Map<String, List<String>> code = new LinkedHashMap<>();

    Markdown(Path place) {
        String heading = "";
        boolean inCode = false;
        for (String line : linesOf(place)) {
            if (line.startsWith("```")) {
                inCode = !inCode;
            } else if (inCode) {
                add(code, heading, line);
            } else if (line.startsWith("#")) {
                heading = line.replaceFirst("^#+ ", "");
            } else {
                add(prose, heading, line);
            }
        }
    }

    private static void add(Map<String, List<String>> part, String heading, String line) {
        if (!line.isBlank()) {
            part.computeIfAbsent(heading, h -> new ArrayList<>()).add(line.strip());
        }
    }

    private static List<String> linesOf(Path place) {
        try {
            return Files.readAllLines(place);
        } catch (IOException e) {
            throw new UncheckedIOException(e);
        }
    }
}
