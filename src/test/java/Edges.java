import java.io.IOException;
import java.nio.file.Files;
import java.nio.file.Path;
import java.util.Set;
import java.util.TreeSet;

/** Holds each test of a boundary to the document's own words: they must stand there, under the heading told. */
final class Edges {
    private static final Path DOC = Path.of("..", "shared", "DOC.md");

    private final Due due;
    private final String doc;
    private final Set<String> told = new TreeSet<>();

    Edges(Due due) {
        this.due = due;
        this.doc = read();
    }

    private static String read() {
        try {
            return Files.readString(DOC);
        } catch (IOException e) {
            throw new IllegalStateException("no " + DOC + " beside the project", e);
        }
    }

    /** The part below a heading, up to the next one. */
    private String section(String heading) {
        int from = doc.indexOf("\n## " + heading);
        if (from < 0) {
            return "";
        }
        int to = doc.indexOf("\n## ", from + 1);
        return doc.substring(from, to < 0 ? doc.length() : to);
    }

    void of(String heading, String words) {
        due.is("the document says under '" + heading + "': " + words, section(heading).contains(words), true);
        told.add(heading);
    }

    void term(String words) {
        of("Terms", words);
    }

    void promise(int number, String words) {
        of("Promise " + number + ":", words);
    }

    void allPromises(int last) {
        for (int number = 1; number <= last; number++) {
            due.is("a boundary of promise " + number + " has a test", told.contains("Promise " + number + ":"), true);
        }
    }
}
