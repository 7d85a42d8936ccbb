import java.nio.file.Files;
import java.nio.file.Path;
import java.util.LinkedHashSet;
import java.util.List;
import java.util.Set;

/**
 * The document's sentences, and which of them a test has gone through. A test says each one before it tries what
 * the sentence promises: so none is forgotten, and none is tested that the document does not have.
 */
final class Document {
    static final Path PLACE = Path.of("../shared/DOC.md");

    private final Due due;
    private final Set<String> said = new LinkedHashSet<>();
    private String heading = "";

    Document(Due due) {
        this.due = due;
    }

    void under(String heading) {
        this.heading = heading;
    }

    void says(String sentence) {
        said.add(heading + ": " + sentence);
    }

    /** What was said must be what is written under the headings that begin like this, to the letter. */
    void end(String... beginnings) {
        if (!Files.exists(PLACE)) {
            System.out.println(PLACE + " is not here: its sentences are tested, but not whether it has more");
            return;
        }
        Set<String> written = new LinkedHashSet<>();
        new Markdown(PLACE).prose.forEach((name, lines) -> {
            if (List.of(beginnings).stream().anyMatch(name::startsWith)) {
                lines.forEach(line -> sentencesOf(line).forEach(sentence -> written.add(name + ": " + sentence)));
            }
        });
        written.forEach(sentence -> due.yes("a test for '" + sentence + "'", said.contains(sentence)));
        said.forEach(sentence -> due.yes("the document has '" + sentence + "'", written.contains(sentence)));
    }

    /** A sentence begins with a capital letter or with code; the call before a promise is no part of it. */
    private static List<String> sentencesOf(String line) {
        return List.of(line.replaceFirst("^`[^`]*\\)[^`]*`: ", "").split("(?<=[^.][.]) (?=[A-Z`])"));
    }
}
