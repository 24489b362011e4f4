import java.io.IOException;
import java.nio.file.Files;
import java.nio.file.Path;
import java.util.function.Supplier;

/** One test for each sentence of the document that names a boundary case, told by its promise and its words. */
final class Edge {
    private static final int PROMISES = 36;
    private static final String DOCUMENT = document();
    private static final int[] TESTS = new int[PROMISES + 1];
    private static String label = "";

    private Edge() {
    }

    private static String document() {
        try {
            return Files.readString(Path.of("../shared/DOC.md")).replaceAll("\\s+", " ");
        } catch (IOException e) {
            throw new IllegalStateException("the document cannot be read", e);
        }
    }

    static String label() {
        return label;
    }

    /** The words are the document's own: a test of words that it has no more is to be written anew. */
    static void test(int promise, String words, Runnable checks) {
        test(promise, words, "", checks);
    }

    private static void test(int promise, String words, String about, Runnable checks) {
        label = "promise " + promise + " \"" + words + "\": " + about;
        TESTS[promise]++;
        if (!DOCUMENT.contains(words)) {
            Due.fail(label + "the document does not say so");
        }
        try {
            checks.run();
        } catch (RuntimeException e) {
            Due.fail(label + e);
        }
        label = "";
    }

    /** A call that is refused leaves an object such that all later calls answer as on one that never had it. */
    static void refused(int promise, Supplier<Run> before, long answer, String... calls) {
        for (String call : calls) {
            test(promise, "What is refused changes nothing.", "behind " + call + ": ", () -> {
                Run touched = before.get().due(call, answer);
                Witness.same(touched, before.get());
            });
        }
    }

    /** A call that only asks leaves all as it was. */
    static void changesNothing(int promise, String words, Supplier<Run> before, String... calls) {
        for (String call : calls) {
            test(promise, words, "behind " + call + ": ", () -> {
                Run touched = before.get();
                touched.ask(call);
                Witness.same(touched, before.get());
            });
        }
    }

    static void finish() {
        for (int promise = 1; promise <= PROMISES; promise++) {
            if (TESTS[promise] == 0) {
                Due.fail("no test of a sentence of promise " + promise);
            }
        }
    }
}
