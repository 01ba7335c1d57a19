import java.io.IOException;
import java.nio.file.Path;
import java.util.HashSet;
import java.util.Set;

/** Runs a test for each sentence of the document that names a boundary case, and looks whether one is left out. */
final class Sentences {
    interface Test {
        void run(Check check);
    }

    private final Document document;
    private final Check own = new Check("the sentences");
    private final Set<String> tested = new HashSet<>();
    private int tests;
    private int checks;
    private int wrong;

    Sentences(Path path) throws IOException {
        document = new Document(path);
    }

    /** A sentence with several cases may have several tests. */
    void test(String section, String sentence, Test test) {
        String name = section + ": " + sentence;
        own.yes("in the document stands \"" + name + "\"", document.has(section, sentence));
        tested.add(name);
        Check check = new Check(name);
        try {
            test.run(check);
        } catch (RuntimeException thrown) {
            check.report("threw " + thrown + " at " + thrown.getStackTrace()[0]);
        }
        own.yes("a check for \"" + name + "\"", check.checks() > 0);
        tests++;
        checks += check.checks();
        wrong += check.wrong();
    }

    void test(int promise, String sentence, Test test) {
        test("Promise " + promise, sentence, test);
    }

    void end() {
        for (String boundary : document.boundaries()) {
            own.yes("a test for \"" + boundary + "\"", tested.contains(boundary));
        }
        wrong += own.wrong();
        System.out.println("BoundaryTest: " + tests + " tests for " + tested.size() + " sentences, " + checks
                + " checks, " + wrong + " wrong");
        if (wrong > 0) {
            System.exit(1);
        }
    }
}
