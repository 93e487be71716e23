import java.io.IOException;
import java.nio.file.Files;
import java.nio.file.Path;
import java.util.ArrayList;
import java.util.List;

/** The document that the class is compared with, where it can be read. */
final class Document {
    private static final Path DOCUMENT = Path.of(System.getProperty("document", "../shared/DOC.md"));

    private Document() {
    }

    /** Tells, and prints if not, whether the tests can be compared with the document. */
    static boolean isThere() {
        boolean there = Files.isReadable(DOCUMENT);
        if (!there) {
            System.out.println("no document at " + DOCUMENT + ": the tests run, but are not compared with it");
        }
        return there;
    }

    /** The lines of a section that are not blank; the section is named by its heading, up to the colon. */
    static List<String> section(String heading) {
        List<String> lines = new ArrayList<>();
        boolean within = false;
        for (String line : lines()) {
            if (line.startsWith("## ")) {
                within = line.substring(3).split(":")[0].equals(heading);
            } else if (within && !line.isBlank()) {
                lines.add(line);
            }
        }
        return lines;
    }

    /** All sections' headings, in their order. */
    static List<String> headings() {
        List<String> headings = new ArrayList<>();
        for (String line : lines()) {
            if (line.startsWith("## ")) {
                headings.add(line.substring(3));
            }
        }
        return headings;
    }

    private static List<String> lines() {
        try {
            return Files.readAllLines(DOCUMENT);
        } catch (IOException e) {
            throw new IllegalStateException("the document can't be read at " + DOCUMENT, e);
        }
    }
}
