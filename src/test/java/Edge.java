import java.io.IOException;
import java.nio.file.Files;
import java.nio.file.Path;
import java.util.Arrays;
import java.util.function.Supplier;

/** One test at least for each sentence of the document's terms and promises, told by its promise and its words. */
final class Edge {
    private static final int PROMISES = 36;
    private static final String DOCUMENT = document();
    private static final int[] TESTS = new int[PROMISES + 1];
    private static final boolean[] IS_QUOTED = new boolean[DOCUMENT.length()];
    /** Words that only join two sentences ("; or", "that by") need no test of their own. */
    private static final int JOINING_WORDS_MOST = 2;
    private static String label = "";

    private Edge() {
    }

    private static String document() {
        try {
            return Files.readString(Path.of("../shared/DOC.md")).replaceAll("\\s+", " ");
        } catch (IOException e) {
            throw new IllegalStateException("the document cannot be read", e);
        }
    }

    static String label() {
        return label;
    }

    /** The words are the document's own: a test of words that it has no more is to be written anew. */
    static void test(int promise, String words, Runnable checks) {
        test(promise, words, "", checks);
    }

    private static void test(int promise, String words, String about, Runnable checks) {
        label = "promise " + promise + " \"" + words + "\": " + about;
        TESTS[promise]++;
        if (!DOCUMENT.contains(words)) {
            Due.fail(label + "the document does not say so");
        }
        quote(words);
        try {
            checks.run();
        } catch (RuntimeException e) {
            Due.fail(label + e);
        }
        label = "";
    }

    private static void quote(String words) {
        for (int at = DOCUMENT.indexOf(words); at >= 0; at = DOCUMENT.indexOf(words, at + 1)) {
            Arrays.fill(IS_QUOTED, at, at + words.length(), true);
        }
    }

    /** A call that is refused leaves an object such that all later calls answer as on one that never had it. */
    static void refused(int promise, Supplier<Run> before, long answer, String... calls) {
        for (String call : calls) {
            test(promise, "What is refused changes nothing.", "behind " + call + ": ", () -> {
                Run touched = before.get().due(call, answer);
                Witness.same(touched, before.get());
            });
        }
    }

    /** A call that only asks leaves all as it was. */
    static void changesNothing(int promise, String words, Supplier<Run> before, String... calls) {
        for (String call : calls) {
            test(promise, words, "behind " + call + ": ", () -> {
                Run touched = before.get();
                touched.ask(call);
                Witness.same(touched, before.get());
            });
        }
    }

    static void finish() {
        for (int promise = 1; promise <= PROMISES; promise++) {
            if (TESTS[promise] == 0) {
                Due.fail("no test of a sentence of promise " + promise);
            }
        }
        Due.due("sentences of the document without a test", unquoted(), "");
    }

    /** What no test quotes of the terms and of the promises, but for heads, calls and what only joins. */
    private static String unquoted() {
        StringBuilder left = new StringBuilder();
        int end = DOCUMENT.indexOf("## Not promised");
        for (int i = DOCUMENT.indexOf("## Terms"); i < end; i++) {
            left.append(IS_QUOTED[i] ? '\n' : DOCUMENT.charAt(i));
        }
        String plain = left.toString().replaceAll("Ahead of the calls [^.]*the interface says: ---- [a-z ]*\\.", "\n")
            .replaceAll("## Promise \\d+: [^`]*`[^`]*`:", "\n").replaceAll("## Terms|======== \\d|```(text)?", "\n");
        StringBuilder found = new StringBuilder();
        for (String stretch : plain.split("\n")) {
            String words = stretch.replaceAll("[^A-Za-z0-9]+", " ").trim();
            if (words.split(" ").length > JOINING_WORDS_MOST) {
                found.append('[').append(stretch.trim()).append(']');
            }
        }
        return found.toString();
    }
}
