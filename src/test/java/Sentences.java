import java.util.LinkedHashSet;
import java.util.Set;

/**
 * The sentences of some sections of the document, each of which has a test of its own. A sentence that no test
 * names is a failure, and so is a test of a sentence that does not stand there (any more).
 */
final class Sentences {
    private final Check check;
    private final boolean compared = Document.isThere();
    private final Set<String> untested = new LinkedHashSet<>();

    /** A section is named by its heading, up to the colon. */
    Sentences(Check check, String... sections) {
        this.check = check;
        for (int i = 0; compared && i < sections.length; i++) {
            int before = untested.size();
            addSentences(sections[i]);
            check.yes("the document has a section " + sections[i], untested.size() > before);
        }
    }

    void test(String section, String sentence, Runnable test) {
        String key = section + ", '" + sentence + "'";
        check.about(key);
        check.yes("stands in the document, and has one test", !compared || untested.remove(key));
        int before = check.answers();
        String end = "ended";
        try {
            test.run();
        } catch (RuntimeException e) {
            end = "broken off by " + e + " at " + e.getStackTrace()[0];
        }
        check.same("the test", end, "ended");
        check.yes("the test looks at more than its own end", check.answers() > before + 1);
        check.about("");
    }

    /** Names a sentence that tells what others say, or of a text that no call answers. */
    void onlyTells(String section, String sentence) {
        String key = section + ", '" + sentence + "'";
        check.yes(key + " stands in the document", !compared || untested.remove(key));
    }

    void end() {
        for (String key : untested) {
            check.same(key, "no test", "a test of its own");
        }
        check.end();
    }

    private void addSentences(String section) {
        for (String line : Document.section(section)) {
            if (!line.startsWith("###")) {
                addLine(section, line);
            }
        }
    }

    private void addLine(String section, String line) {
        boolean signature = section.startsWith("Promise") && line.startsWith("`");
        String text = signature ? line.substring(line.indexOf("`: ") + 3) : line;
        for (String sentence : text.split("(?<=[.]) +(?=[A-Z])")) {
            untested.add(section + ", '" + sentence + "'");
        }
    }
}
