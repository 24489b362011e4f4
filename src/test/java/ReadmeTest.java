import java.io.File;
import java.io.IOException;
import java.io.StringWriter;
import java.lang.reflect.Method;
import java.lang.reflect.Modifier;
import java.net.URI;
import java.net.URL;
import java.net.URLClassLoader;
import java.nio.file.Files;
import java.nio.file.Path;
import java.util.ArrayList;
import java.util.List;
import java.util.Set;
import java.util.TreeSet;
import java.util.regex.Matcher;
import java.util.regex.Pattern;
import javax.tools.JavaCompiler;
import javax.tools.JavaFileObject;
import javax.tools.SimpleJavaFileObject;
import javax.tools.ToolProvider;

/** What README.md shows as an example answers as README.md says, and its tables tell of each call as the document does. */
public final class ReadmeTest {
    private static final Pattern JAVA_BLOCK = Pattern.compile("^```java\n(.*?)^```$", Pattern.MULTILINE | Pattern.DOTALL);
    /** A call, and behind it what it answers: a number, a sign, or one of the four constants. */
    private static final Pattern EXAMPLE = Pattern.compile("^((?:x|new SailingDirections\\(\\))\\.(\\w+)\\(.*\\)); +// (-?\\d+|'.'|[A-Z]+)(?=:).*$");
    private static final Pattern LOG = Pattern.compile("^x\\.\\w+\\((\\d+),.*the log is \"(.*)\"$");
    private static final Pattern CALL_ROW = Pattern.compile("^\\| `(\\w+)\\((.*?)\\)` \\| (.*) \\| ?(.*?) ?\\|$", Pattern.MULTILINE);
    private static final String EXAMPLES = "ReadmeExamples";

    public static void main(String[] args) throws Exception {
        String readme = Files.readString(Path.of("README.md"));
        String document = Files.readString(Path.of("../shared/DOC.md"));
        examples(readme);
        calls(readme, document);
        constants(readme);
        classesInside(readme);
        testsNamed(readme);
        Due.finish("ReadmeTest");
    }

    private static Set<String> faceNames() {
        Set<String> names = new TreeSet<>();
        for (Method m : SailingDirections.class.getDeclaredMethods()) {
            if (Modifier.isPublic(m.getModifiers())) {
                names.add(m.getName());
            }
        }
        return names;
    }

    /** All blocks, one behind the other, are one program: what is told in one holds in the next. */
    private static void examples(String readme) throws Exception {
        StringBuilder methods = new StringBuilder();
        StringBuilder body = new StringBuilder();
        Set<String> shown = new TreeSet<>();
        Matcher blocks = JAVA_BLOCK.matcher(readme);
        while (blocks.find()) {
            String block = blocks.group(1);
            if (block.startsWith("static ")) {
                methods.append(block);
                shown.add("feed");
            } else {
                body.append(checked(block, shown));
            }
        }
        Due.due("calls that README.md shows", shown.toString(), faceNames().toString());
        runProgram("final class " + EXAMPLES + " {\n"
            + "private static final int NONE = SailingDirections.NONE, BAD = SailingDirections.BAD;\n"
            + "private static final int STATE = SailingDirections.STATE, FULL = SailingDirections.FULL;\n"
            + methods + "static void show(java.util.List<String> calls, java.util.List<Long> got, java.util.List<Long> want) {\n" + body + "}\n}\n");
    }

    private static String checked(String block, Set<String> shown) {
        StringBuilder lines = new StringBuilder();
        for (String line : block.split("\n")) {
            Matcher example = EXAMPLE.matcher(line);
            if (example.matches()) {
                shown.add(example.group(2));
                lines.append("calls.add(\"").append(example.group(1)).append("\"); got.add((long) ").append(example.group(1));
                lines.append("); want.add((long) ").append(example.group(3)).append(");\n").append(checkedLog(line));
            } else if (line.contains("//")) {
                Due.fail("README.md: an example without an answer: " + line);
            } else {
                lines.append(line).append('\n');
            }
        }
        return lines.toString();
    }

    /** Where the words behind a call tell the whole log, all its signs are asked for, and one more. */
    private static String checkedLog(String line) {
        Matcher log = LOG.matcher(line);
        StringBuilder lines = new StringBuilder();
        if (log.find()) {
            String signs = log.group(2);
            for (int i = 0; i <= signs.length(); i++) {
                String call = "x.sign(" + log.group(1) + ", " + i + ")";
                String sign = i < signs.length() ? "'" + signs.charAt(i) + "'" : "NONE";
                lines.append("calls.add(\"").append(call).append("\"); got.add((long) ").append(call);
                lines.append("); want.add((long) ").append(sign).append(");\n");
            }
        }
        return lines.toString();
    }

    private static void runProgram(String program) throws Exception {
        Path place = Files.createTempDirectory("readme");
        try {
            if (isCompiled(program, place)) {
                compare(place);
            }
        } finally {
            for (File file : place.toFile().listFiles()) {
                file.delete();
            }
            Files.delete(place);
        }
    }

    private static boolean isCompiled(String program, Path place) {
        JavaCompiler compiler = ToolProvider.getSystemJavaCompiler();
        JavaFileObject file = new SimpleJavaFileObject(URI.create("string:///" + EXAMPLES + ".java"), JavaFileObject.Kind.SOURCE) {
            @Override public CharSequence getCharContent(boolean ignored) {
                return program;
            }
        };
        StringWriter told = new StringWriter();
        List<String> options = List.of("-d", place.toString(), "-cp", System.getProperty("java.class.path"), "-proc:none");
        boolean isCompiled = compiler.getTask(told, null, null, options, null, List.of(file)).call();
        if (!isCompiled) {
            Due.fail("README.md: its examples do not compile: " + told);
        }
        return isCompiled;
    }

    private static void compare(Path place) throws Exception {
        List<String> calls = new ArrayList<>();
        List<Long> got = new ArrayList<>();
        List<Long> want = new ArrayList<>();
        try (URLClassLoader loader = new URLClassLoader(new URL[] {place.toUri().toURL()}, ReadmeTest.class.getClassLoader())) {
            Method show = loader.loadClass(EXAMPLES).getDeclaredMethod("show", List.class, List.class, List.class);
            show.setAccessible(true);
            show.invoke(null, calls, got, want);
        }
        for (int i = 0; i < calls.size(); i++) {
            Due.due("README.md: " + calls.get(i), got.get(i), want.get(i));
        }
        Due.due("README.md shows examples", calls.isEmpty() ? 0 : 1, 1);
    }

    /** Each row has the document's call, by its names, and its refusals in the document's order. */
    private static void calls(String readme, String document) {
        List<String> rows = new ArrayList<>();
        Matcher row = CALL_ROW.matcher(readme);
        while (row.find()) {
            rows.add(row.group(1) + "(" + row.group(2) + ") " + row.group(4) + (row.group(3).contains("NONE") ? " or NONE" : ""));
        }
        List<String> due = new ArrayList<>();
        Matcher promise = Pattern.compile("^`(?:int|long) (\\w+)\\((.*)\\)`: (.*)$", Pattern.MULTILINE).matcher(document);
        while (promise.find()) {
            String names = promise.group(2).replaceAll("\\bint ", "");
            due.add(promise.group(1) + "(" + names + ") " + refusalsOf(promise.group(3)) + (promise.group(3).contains("NONE") ? " or NONE" : ""));
        }
        Due.due("rows of calls in README.md", String.join("\n", rows), String.join("\n", due));
        Due.due("how many calls", rows.size(), faceNames().size());
    }

    private static String refusalsOf(String words) {
        List<String> refusals = new ArrayList<>();
        for (String refusal : List.of("BAD", "STATE", "FULL")) {
            if (Pattern.compile("\\b" + refusal + "\\b").matcher(words).find()) {
                refusals.add(refusal);
            }
        }
        if (words.contains("(ahead of BAD)")) {
            refusals.remove("STATE");
            refusals.add(0, "STATE");
        }
        return String.join(", ", refusals);
    }

    private static void constants(String readme) {
        int[] values = {SailingDirections.NONE, SailingDirections.BAD, SailingDirections.STATE, SailingDirections.FULL};
        String[] names = {"NONE", "BAD", "STATE", "FULL"};
        for (int i = 0; i < names.length; i++) {
            Due.due("README.md tells " + names[i], readme.contains("| `" + names[i] + "` | " + values[i] + " |") ? 1 : 0, 1);
        }
    }

    private static void classesInside(String readme) {
        Set<String> told = new TreeSet<>();
        Matcher row = Pattern.compile("^\\| `([A-Z][a-z]+)` \\|", Pattern.MULTILINE).matcher(readme);
        while (row.find()) {
            told.add(row.group(1));
        }
        Set<String> found = new TreeSet<>();
        for (Class<?> inside : SailingDirections.class.getDeclaredClasses()) {
            found.add(inside.getSimpleName());
        }
        Due.due("classes inside, by README.md", told.toString(), found.toString());
    }

    /** Each file of the tests has its word in README.md. */
    private static void testsNamed(String readme) throws IOException {
        for (File file : Path.of("src/test/java").toFile().listFiles()) {
            String name = file.getName().replace(".java", "");
            Due.due("README.md tells of " + name, readme.contains("`" + name + "`") ? 1 : 0, 1);
        }
    }
}
