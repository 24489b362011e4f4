import com.sun.source.tree.BinaryTree;
import com.sun.source.tree.BlockTree;
import com.sun.source.tree.CompilationUnitTree;
import com.sun.source.tree.ConditionalExpressionTree;
import com.sun.source.tree.ExpressionStatementTree;
import com.sun.source.tree.LiteralTree;
import com.sun.source.tree.ReturnTree;
import com.sun.source.tree.Tree;
import com.sun.source.tree.UnaryTree;
import com.sun.source.util.JavacTask;
import com.sun.source.util.SourcePositions;
import com.sun.source.util.TreeScanner;
import com.sun.source.util.Trees;
import java.io.File;
import java.io.IOException;
import java.io.StringWriter;
import java.net.URI;
import java.nio.file.Files;
import java.nio.file.Path;
import java.util.ArrayList;
import java.util.List;
import java.util.Map;
import java.util.concurrent.ExecutorService;
import java.util.concurrent.Executors;
import java.util.concurrent.TimeUnit;
import java.util.concurrent.atomic.AtomicInteger;
import javax.tools.JavaCompiler;
import javax.tools.JavaFileObject;
import javax.tools.SimpleJavaFileObject;
import javax.tools.StandardJavaFileManager;
import javax.tools.ToolProvider;

/**
 * Breaks the class in one place after the other and runs a test on each broken one: tells those that the test
 * does not notice. Run by hand, not by .ci/run: java -cp BUILD Mutants BUILD EdgesTest
 */
public final class Mutants {
    private static final Path SOURCE = Path.of("src/main/java/SailingDirections.java");
    private static final int SECONDS_MOST = 60;
    private static final Map<Tree.Kind, String> OTHER = Map.ofEntries(
        Map.entry(Tree.Kind.LESS_THAN, "<="), Map.entry(Tree.Kind.LESS_THAN_EQUAL, "<"),
        Map.entry(Tree.Kind.GREATER_THAN, ">="), Map.entry(Tree.Kind.GREATER_THAN_EQUAL, ">"),
        Map.entry(Tree.Kind.EQUAL_TO, "!="), Map.entry(Tree.Kind.NOT_EQUAL_TO, "=="),
        Map.entry(Tree.Kind.PLUS, "-"), Map.entry(Tree.Kind.MINUS, "+"), Map.entry(Tree.Kind.MULTIPLY, "+"),
        Map.entry(Tree.Kind.DIVIDE, "*"), Map.entry(Tree.Kind.REMAINDER, "/"),
        Map.entry(Tree.Kind.CONDITIONAL_AND, "||"), Map.entry(Tree.Kind.CONDITIONAL_OR, "&&"));

    private record Mutant(int from, int to, String text) {
    }

    private Mutants() {
    }

    public static void main(String[] args) throws IOException, InterruptedException {
        String source = Files.readString(SOURCE);
        List<Mutant> mutants = mutantsOf(source);
        AtomicInteger unnoticed = new AtomicInteger();
        AtomicInteger run = new AtomicInteger();
        ExecutorService workers = Executors.newFixedThreadPool(Runtime.getRuntime().availableProcessors());
        for (Mutant mutant : mutants) {
            workers.submit(() -> {
                String broken = source.substring(0, mutant.from) + mutant.text + source.substring(mutant.to);
                String answer = isNoticed(broken, args[0], args[1]);
                run.addAndGet(answer.equals("no class") ? 0 : 1);
                if (answer.equals("unnoticed")) {
                    unnoticed.incrementAndGet();
                    System.out.println(told(source, mutant));
                }
                return null;
            });
        }
        workers.shutdown();
        workers.awaitTermination(2, TimeUnit.HOURS);
        System.out.println(run.get() + " broken, " + unnoticed.get() + " unnoticed by " + args[1]);
    }

    private static String told(String source, Mutant mutant) {
        int line = (int) source.substring(0, mutant.from).lines().count();
        int start = source.lastIndexOf('\n', mutant.from - 1) + 1;
        int end = source.indexOf('\n', mutant.to);
        String was = source.substring(mutant.from, mutant.to);
        return line + ": " + source.substring(start, end).trim().replaceAll("\\s+", " ") + "   [" + was.replaceAll("\\s+", " ") + " -> "
            + mutant.text + "]";
    }

    private static String isNoticed(String broken, String build, String test) throws IOException, InterruptedException {
        Path place = Files.createTempDirectory("mutant");
        try {
            if (!isCompiled(broken, place)) {
                return "no class";
            }
            Process process = new ProcessBuilder("java", "-XX:+UseSerialGC", "-XX:TieredStopAtLevel=1", "-cp", place + File.pathSeparator
            + build, test)
                .redirectErrorStream(true).redirectOutput(ProcessBuilder.Redirect.DISCARD).start();
            boolean ends = process.waitFor(SECONDS_MOST, TimeUnit.SECONDS);
            if (!ends) {
                process.destroyForcibly();
            }
            return ends && process.exitValue() == 0 ? "unnoticed" : "noticed";
        } finally {
            for (File file : place.toFile().listFiles()) {
                file.delete();
            }
            Files.delete(place);
        }
    }

    private static boolean isCompiled(String broken, Path place) {
        JavaCompiler compiler = ToolProvider.getSystemJavaCompiler();
        JavaFileObject file = new SimpleJavaFileObject(URI.create("string:///SailingDirections.java"), JavaFileObject.Kind.SOURCE) {
            @Override public CharSequence getCharContent(boolean ignored) {
                return broken;
            }
        };
        return compiler.getTask(new StringWriter(), null, d -> { }, List.of("-d", place.toString(), "-proc:none"), null,
            List.of(file)).call();
    }

    private static List<Mutant> mutantsOf(String source) throws IOException {
        JavaCompiler compiler = ToolProvider.getSystemJavaCompiler();
        List<Mutant> found = new ArrayList<>();
        try (StandardJavaFileManager files = compiler.getStandardFileManager(null, null, null)) {
            JavacTask task = (JavacTask) compiler.getTask(null, files, null, List.of("-proc:none"), null,
            files.getJavaFileObjects(SOURCE.toFile()));
            SourcePositions positions = Trees.instance(task).getSourcePositions();
            for (CompilationUnitTree unit : task.parse()) {
                new Finder(source, unit, positions, found).scan(unit, null);
            }
        }
        return found;
    }

    private static final class Finder extends TreeScanner<Void, Void> {
        private final String source;
        private final CompilationUnitTree unit;
        private final SourcePositions positions;
        private final List<Mutant> found;

        Finder(String source, CompilationUnitTree unit, SourcePositions positions, List<Mutant> found) {
            this.source = source;
            this.unit = unit;
            this.positions = positions;
            this.found = found;
        }

        private int from(Tree tree) {
            return (int) positions.getStartPosition(unit, tree);
        }

        private int to(Tree tree) {
            return (int) positions.getEndPosition(unit, tree);
        }

        private void put(Tree tree, String text) {
            found.add(new Mutant(from(tree), to(tree), text));
        }

        private String text(Tree tree) {
            return source.substring(from(tree), to(tree));
        }

        @Override public Void visitBinary(BinaryTree tree, Void v) {
            String other = OTHER.get(tree.getKind());
            if (other != null) {
                put(tree, text(tree.getLeftOperand()) + " " + other + " " + text(tree.getRightOperand()));
            }
            return super.visitBinary(tree, v);
        }

        @Override public Void visitLiteral(LiteralTree tree, Void v) {
            if (tree.getKind() == Tree.Kind.INT_LITERAL || tree.getKind() == Tree.Kind.LONG_LITERAL) {
                put(tree, "(" + text(tree) + " + 1)");
                put(tree, "(" + text(tree) + " - 1)");
            }
            if (tree.getKind() == Tree.Kind.BOOLEAN_LITERAL) {
                put(tree, text(tree).equals("true") ? "false" : "true");
            }
            return super.visitLiteral(tree, v);
        }

        @Override public Void visitUnary(UnaryTree tree, Void v) {
            if (tree.getKind() == Tree.Kind.LOGICAL_COMPLEMENT || tree.getKind() == Tree.Kind.UNARY_MINUS) {
                put(tree, text(tree.getExpression()));
            }
            return super.visitUnary(tree, v);
        }

        @Override public Void visitConditionalExpression(ConditionalExpressionTree tree, Void v) {
            put(tree, text(tree.getTrueExpression()));
            put(tree, text(tree.getFalseExpression()));
            return super.visitConditionalExpression(tree, v);
        }

        @Override public Void visitReturn(ReturnTree tree, Void v) {
            if (tree.getExpression() != null) {
                put(tree, "return !(" + text(tree.getExpression()) + ");");
            }
            return super.visitReturn(tree, v);
        }

        @Override public Void visitBlock(BlockTree tree, Void v) {
            for (Tree statement : tree.getStatements()) {
                if (statement instanceof ExpressionStatementTree) {
                    put(statement, ";");
                }
            }
            return super.visitBlock(tree, v);
        }
    }
}
