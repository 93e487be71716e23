import java.io.IOException;
import java.nio.file.Files;
import java.nio.file.Path;
import java.util.LinkedHashSet;
import java.util.List;
import java.util.Set;

/**
 * The sentences of some sections of the document, each of which has a test of its own. A sentence that no test
 * names is a failure, and so is a test of a sentence that does not stand there (any more).
 */
final class Sentences {
    private static final Path DOCUMENT = Path.of(System.getProperty("document", "../shared/DOC.md"));

    private final Check check;
    private final boolean compared = Files.isReadable(DOCUMENT);
    private final Set<String> untested = new LinkedHashSet<>();

    /** A section is named by its heading, up to the colon. */
    Sentences(Check check, String... sections) {
        this.check = check;
        if (!compared) {
            System.out.println("no document at " + DOCUMENT + ": the tests run, but are not compared with its sentences");
            return;
        }
        List<String> document = document();
        for (String section : sections) {
            int before = untested.size();
            addSentences(document, section);
            check.yes("the document has a section " + section, untested.size() > before);
        }
    }

    void test(String section, String sentence, Runnable test) {
        String key = section + ", '" + sentence + "'";
        check.about(key);
        check.yes("stands in the document, and has one test", !compared || untested.remove(key));
        int before = check.answers();
        String end = "ended";
        try {
            test.run();
        } catch (RuntimeException e) {
            end = "broken off by " + e + " at " + e.getStackTrace()[0];
        }
        check.same("the test", end, "ended");
        check.yes("the test looks at more than its own end", check.answers() > before + 1);
        check.about("");
    }

    /** Names a sentence that tells what others say, or of a text that no call answers. */
    void onlyTells(String section, String sentence) {
        String key = section + ", '" + sentence + "'";
        check.yes(key + " stands in the document", !compared || untested.remove(key));
    }

    void end() {
        for (String key : untested) {
            check.same(key, "no test", "a test of its own");
        }
        check.end();
    }

    private static List<String> document() {
        try {
            return Files.readAllLines(DOCUMENT);
        } catch (IOException e) {
            throw new IllegalStateException("the document can't be read at " + DOCUMENT, e);
        }
    }

    private void addSentences(List<String> document, String section) {
        boolean within = false;
        for (String line : document) {
            if (line.startsWith("## ")) {
                within = line.substring(3).split(":")[0].equals(section);
            } else if (within && !line.isBlank() && !line.startsWith("###")) {
                addLine(section, line);
            }
        }
    }

    private void addLine(String section, String line) {
        boolean signature = section.startsWith("Promise") && line.startsWith("`");
        String text = signature ? line.substring(line.indexOf("`: ") + 3) : line;
        for (String sentence : text.split("(?<=[.]) +(?=[A-Z])")) {
            untested.add(section + ", '" + sentence + "'");
        }
    }
}
