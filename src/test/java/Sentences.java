import java.io.IOException;
import java.nio.file.Files;
import java.nio.file.Path;
import java.util.LinkedHashMap;
import java.util.Map;

/** Tests that each belong to one sentence of the document, and whether all its sentences have one. */
final class Sentences {
    /** A test of one sentence. */
    interface Test {
        void run(Check check);
    }

    private static final String FIRST_SECTION = "Terms";
    private static final String LAST_SECTION = "Promise 19: free";

    private final Check check = new Check();
    private final boolean hasDocument;
    /** By a section's title: what is left of its words when those that have a test are taken out. */
    private final Map<String, String> untested = new LinkedHashMap<>();
    private String section = "";

    /** Takes the sections from the document, so that what is quoted can be looked up there. */
    Sentences(Path document) throws IOException {
        hasDocument = Files.exists(document);
        if (!hasDocument) {
            System.out.println("there is no " + document + ": the tests run, but no sentence is looked up");
            return;
        }
        String title = "";
        for (String line : Files.readAllLines(document)) {
            if (line.startsWith("## ")) {
                title = line.substring(3).trim();
                untested.put(title, "");
            } else if (!line.startsWith("```")) {
                untested.merge(title, withoutHead(line), (before, more) -> (before + " " + more).trim());
            }
        }
    }

    /** A promise begins with the method's head, and that is what FaceTest looks at. */
    private static String withoutHead(String line) {
        String plain = line.startsWith("`") && line.contains("`: ") ? line.substring(line.indexOf("`: ") + 3) : line;
        return plain.trim().replaceAll("\\s+", " ");
    }

    /** The tests that follow are of sentences of this section. */
    void in(String title) {
        section = title;
    }

    /** Runs the test of a sentence, or of a part of one that says something by itself. */
    void test(String sentence, Test test) {
        int failedBefore = check.countFailed();
        int before = check.countAll();
        try {
            test.run(check);
        } catch (RuntimeException | AssertionError thrown) {
            check.same("thrown where nothing may be", thrown.toString(), "nothing");
        }
        check.holds("something is tested", check.countAll() > before);
        if (hasDocument) {
            takeOut(sentence);
        }
        if (check.countFailed() > failedBefore) {
            System.out.println("    broken: " + section + ": " + sentence);
        }
    }

    private void takeOut(String sentence) {
        String left = untested.getOrDefault(section, "");
        int at = left.indexOf(sentence);
        check.holds("the document says so, and it is not yet tested", at >= 0);
        if (at >= 0) {
            untested.put(section, left.substring(0, at) + " " + left.substring(at + sentence.length()));
        }
    }

    /** Fails when a word of the sections that promise something is in no sentence that was tested. */
    void end(String name) {
        boolean promises = false;
        for (Map.Entry<String, String> part : untested.entrySet()) {
            promises |= part.getKey().equals(FIRST_SECTION);
            if (promises) {
                check.same("without a test in " + part.getKey(), part.getValue().replaceAll("\\W+", " ").trim(), "");
            }
            promises &= !part.getKey().equals(LAST_SECTION);
        }
        check.end(name);
    }
}
