import java.io.IOException;
import java.nio.file.Files;
import java.nio.file.Path;

/** Sentences of the document, word for word, each with a test of its own. */
final class Sentences {
    private static final Path DOCUMENT = Path.of("..", "shared", "DOC.md");

    private final String document;
    private String section = "";

    Sentences() {
        document = read();
    }

    private static String read() {
        try {
            return Files.exists(DOCUMENT) ? oneLine(Files.readString(DOCUMENT)) : "";
        } catch (IOException unreadable) {
            return "";
        }
    }

    private static String oneLine(String words) {
        return words.replaceAll("\\s+", " ");
    }

    /** From here on the sentences are those of the section with this heading. */
    void of(String heading) {
        section = "";
        int from = document.indexOf("## " + heading);
        if (from >= 0) {
            int to = document.indexOf(" ## ", from);
            section = to < 0 ? document.substring(from) : document.substring(from, to);
        }
        Checks.same("the document has a section " + heading, true, document.isEmpty() || !section.isEmpty());
    }

    /** Runs the test of a sentence, which must stand so in the section; without a document there is nothing to ask. */
    void test(String words, Runnable test) {
        Checks.about("\"" + words + "\" ");
        Checks.same("stands in the document", true, document.isEmpty() || section.contains(words));
        int before = Checks.made();
        try {
            test.run();
        } catch (RuntimeException thrown) {
            Checks.same("the test itself", "ends", thrown.toString());
        }
        Checks.same("was tested", true, Checks.made() > before);
        Checks.about("");
    }
}
