import java.io.IOException;
import java.nio.file.Files;
import java.nio.file.Path;
import java.util.LinkedHashMap;
import java.util.Map;

/** Tests that each belong to one sentence of the document, and whether all its sentences have one. */
final class Sentences {
    /** A test of one sentence. */
    interface Test {
        void run(Check check);
    }

    private static final String FIRST_SECTION = "Terms";
    private static final String LAST_SECTION = "Promise 19: free";

    private final Check check = new Check();
    private final Map<String, String> untested = new LinkedHashMap<>();
    private String section = "";

    /** Takes the sentences of the sections from the document, so that what is quoted can be looked up there. */
    Sentences(Path document) throws IOException {
        String title = "";
        for (String line : Files.readAllLines(document)) {
            if (line.startsWith("## ")) {
                title = line.substring(3).trim();
                untested.put(title, "");
            } else if (!line.startsWith("```")) {
                untested.merge(title, withoutSignature(line), (before, more) -> (before + " " + more).trim());
            }
        }
    }

    /** A promise begins with the method's head, whose words FaceTest looks at. */
    private static String withoutSignature(String line) {
        String plain = line.startsWith("`") && line.contains("`: ") ? line.substring(line.indexOf("`: ") + 3) : line;
        return plain.trim().replaceAll("\\s+", " ");
    }

    /** The tests that follow are of sentences of this section. */
    void in(String title) {
        section = title;
        check.holds("the document has the section " + title, untested.containsKey(title));
    }

    /** Runs the test of a sentence, or of the part of one that stands for itself. */
    void test(String sentence, Test test) {
        String left = untested.getOrDefault(section, "");
        int at = left.indexOf(sentence);
        check.holds(section + " says: " + sentence, at >= 0);
        if (at >= 0) {
            untested.put(section, left.substring(0, at) + " " + left.substring(at + sentence.length()));
        }
        int before = check.countAll();
        int failedBefore = check.countFailed();
        test.run(check);
        check.holds("something is tested of: " + sentence, check.countAll() > before);
        if (check.countFailed() > failedBefore) {
            System.out.println("    broken: " + section + ": " + sentence);
        }
    }

    /** Fails when a word of the sections that promise something is in no sentence that was tested. */
    void end(String name) {
        boolean promises = false;
        for (Map.Entry<String, String> part : untested.entrySet()) {
            promises |= part.getKey().equals(FIRST_SECTION);
            if (promises) {
                check.same("without a test in " + part.getKey(), part.getValue().replaceAll("[^\\w]+", " ").trim(), "");
            }
            promises &= !part.getKey().equals(LAST_SECTION);
        }
        check.end(name);
    }
}
