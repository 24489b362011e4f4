import com.sun.source.tree.AssertTree;
import com.sun.source.tree.BinaryTree;
import com.sun.source.tree.ClassTree;
import com.sun.source.tree.CompilationUnitTree;
import com.sun.source.tree.CompoundAssignmentTree;
import com.sun.source.tree.ImportTree;
import com.sun.source.tree.LambdaExpressionTree;
import com.sun.source.tree.MemberReferenceTree;
import com.sun.source.tree.MethodInvocationTree;
import com.sun.source.tree.MethodTree;
import com.sun.source.tree.NewClassTree;
import com.sun.source.tree.SynchronizedTree;
import com.sun.source.tree.ThrowTree;
import com.sun.source.tree.Tree;
import com.sun.source.tree.TryTree;
import com.sun.source.tree.VariableTree;
import com.sun.source.util.JavacTask;
import com.sun.source.util.TreePathScanner;
import com.sun.source.util.Trees;
import java.io.File;
import java.io.IOException;
import java.lang.reflect.Constructor;
import java.lang.reflect.Field;
import java.lang.reflect.Member;
import java.lang.reflect.Method;
import java.lang.reflect.Modifier;
import java.nio.file.Files;
import java.nio.file.Path;
import java.util.ArrayList;
import java.util.Arrays;
import java.util.HashMap;
import java.util.List;
import java.util.Map;
import java.util.Set;
import java.util.TreeSet;
import java.util.regex.Matcher;
import java.util.regex.Pattern;
import javax.lang.model.element.Element;
import javax.lang.model.element.ExecutableElement;
import javax.lang.model.type.TypeMirror;
import javax.tools.JavaCompiler;
import javax.tools.StandardJavaFileManager;
import javax.tools.ToolProvider;

/** The rules of LANGUAGE.md that can be read off the source, and the document's face. */
public final class RulesTest {
    private static final String SOURCE = "src/main/java/SailingDirections.java";
    /** What rule 4 leaves of the library, owner by owner; (CharSequence and its like own what StringBuilder inherits). */
    private static final Map<String, String> LIBRARY = Map.ofEntries(
        Map.entry("String", "<init>|length|charAt|isEmpty|equals|indexOf|substring|toCharArray"),
        Map.entry("StringBuilder", "<init>|append|charAt|setCharAt|setLength|deleteCharAt|reverse|length|toString"),
        Map.entry("AbstractStringBuilder", "charAt|setCharAt|setLength|length"),
        Map.entry("CharSequence", "charAt|length"),
        Map.entry("ArrayList", "<init>|add|get|set|remove|size|isEmpty|clear"),
        Map.entry("List", "add|get|set|remove|size|isEmpty|clear|of"),
        Map.entry("Integer", "\\w+(?<!Exact)"), Map.entry("Long", "\\w+(?<!Exact)"), Map.entry("Math", "\\w+(?<!Exact)"),
        Map.entry("Iterator", "hasNext|next"), Map.entry("Iterable", "iterator"), Map.entry("Comparable", "compareTo"),
        Map.entry("System", "arraycopy"), Map.entry("Arrays", "copyOf|copyOfRange|fill"),
        Map.entry("Array", "clone"), Map.entry("Object", "<init>|clone"), Map.entry("Record", "<init>"), Map.entry("Enum", "<init>|ordinal"));
    private static final int LINES_MOST = 60, PARAMETERS_MOST = 7, DEPTH_MOST = 8, CLASSES_MOST = 12, FIELDS_MOST = 20;

    public static void main(String[] args) throws IOException {
        face();
        heads();
        source();
        Due.finish("RulesTest");
    }

    /** The face is the document's, to the letter, and there is nothing else but what is private. */
    private static void face() throws IOException {
        Set<String> told = new TreeSet<>();
        String document = Files.readString(Path.of("../shared/DOC.md"));
        Matcher lines = Pattern.compile("^    public (int|long) (\\w+)\\((.*)\\);$", Pattern.MULTILINE).matcher(document);
        while (lines.find()) {
            told.add(lines.group(1) + " " + lines.group(2) + "(" + lines.group(3).replaceAll(" \\w+(,|$)", "$1") + ")");
        }
        Set<String> found = new TreeSet<>();
        for (Method m : SailingDirections.class.getDeclaredMethods()) {
            if (Modifier.isPublic(m.getModifiers())) {
                List<String> types = new ArrayList<>();
                for (Class<?> type : m.getParameterTypes()) {
                    types.add(type.getName());
                }
                found.add(m.getReturnType() + " " + m.getName() + "(" + String.join(", ", types) + ")");
            } else {
                duePrivate(m);
            }
        }
        Due.due("the face", found.toString(), told.toString());
        Due.due("how many methods", found.size(), 35);
        int constants = 0;
        for (Field f : SailingDirections.class.getDeclaredFields()) {
            if (Modifier.isPublic(f.getModifiers())) {
                constants++;
            } else {
                duePrivate(f);
            }
        }
        Due.due("public constants", constants, 4);
        Due.due("NONE", SailingDirections.NONE, -1000000);
        Due.due("BAD", SailingDirections.BAD, -1000001);
        Due.due("STATE", SailingDirections.STATE, -1000002);
        Due.due("FULL", SailingDirections.FULL, -1000003);
        Constructor<?>[] constructors = SailingDirections.class.getDeclaredConstructors();
        Due.due("constructors", constructors.length, 1);
        Due.due("its parameters", constructors[0].getParameterCount(), 0);
    }

    /** Ahead of the calls that the document names together stands what it says there, and the calls stand in its order. */
    private static void heads() throws IOException {
        String source = Files.readString(Path.of(SOURCE));
        Matcher told = Pattern.compile("^Ahead of the calls (.*) the interface says: (---- .*)\\.$", Pattern.MULTILINE)
            .matcher(Files.readString(Path.of("../shared/DOC.md")));
        int from = 0;
        int heads = 0;
        for (; told.find(); heads++) {
            int head = source.indexOf("    // " + told.group(2) + "\n", from);
            Due.due("the head " + told.group(2), head >= from ? 1 : 0, 1);
            from = Math.max(from, head);
            for (String call : told.group(1).replaceAll("[`,]", "").split(" ")) {
                Matcher face = Pattern.compile("^    public (int|long) " + call + "\\(", Pattern.MULTILINE).matcher(source);
                boolean isThere = face.find(from);
                Due.due(call + " behind " + told.group(2), isThere ? 1 : 0, 1);
                from = isThere ? face.start() + 1 : from;
            }
        }
        Due.due("heads", heads, 5);
    }

    private static void duePrivate(Member member) {
        if (!member.isSynthetic() && !Modifier.isPrivate(member.getModifiers())) {
            Due.fail(member.getName() + " is neither of the face nor private");
        }
    }

    private static void source() throws IOException {
        JavaCompiler compiler = ToolProvider.getSystemJavaCompiler();
        try (StandardJavaFileManager files = compiler.getStandardFileManager(null, null, null)) {
            JavacTask task = (JavacTask) compiler.getTask(null, files, null, List.of("-proc:none"), null,
                files.getJavaFileObjects(new File(SOURCE)));
            Iterable<? extends CompilationUnitTree> units = task.parse();
            task.analyze();
            for (CompilationUnitTree unit : units) {
                Scan scan = new Scan(Trees.instance(task), unit);
                scan.scan(unit, null);
                scan.judge();
            }
        }
        for (char c : Files.readString(Path.of(SOURCE)).toCharArray()) {
            if (c > 126) {
                Due.fail("a sign that is not plain: " + (int) c);
            }
        }
    }

    private static final class Scan extends TreePathScanner<Void, Void> {
        private final Trees trees;
        private final CompilationUnitTree unit;
        private final Map<String, Set<String>> calls = new HashMap<>();
        private String method = "";
        private int classes = 0;

        Scan(Trees trees, CompilationUnitTree unit) {
            this.trees = trees;
            this.unit = unit;
        }

        private void refuse(Tree tree, String what) {
            long line = unit.getLineMap().getLineNumber(trees.getSourcePositions().getStartPosition(unit, tree));
            Due.fail(SOURCE + ":" + line + ": " + what);
        }

        void judge() {
            if (classes > CLASSES_MOST) {
                Due.fail("classes: " + classes);
            }
            for (String name : calls.keySet()) {
                int depth = depthOf(name, new ArrayList<>());
                if (depth > DEPTH_MOST) {
                    Due.fail(name + " goes " + depth + " calls deep");
                }
            }
            Due.due("methods were found", calls.size() > 36 ? 1 : 0, 1);
        }

        /** How deep calls go that are no recursion: one that comes back to an open one goes no deeper. */
        private int depthOf(String name, List<String> open) {
            if (open.contains(name)) {
                return 0;
            }
            open.add(name);
            int deepest = 0;
            for (String next : calls.getOrDefault(name, Set.of())) {
                deepest = Math.max(deepest, depthOf(next, open));
            }
            open.remove(name);
            return deepest + 1;
        }

        @Override public Void visitImport(ImportTree tree, Void v) {
            if (!tree.getQualifiedIdentifier().toString().matches("java\\.util\\.(ArrayList|List|Arrays|Iterator)")) {
                refuse(tree, "an import");
            }
            return null;
        }

        @Override public Void visitThrow(ThrowTree tree, Void v) {
            refuse(tree, "throw");
            return super.visitThrow(tree, v);
        }

        @Override public Void visitTry(TryTree tree, Void v) {
            refuse(tree, "try");
            return super.visitTry(tree, v);
        }

        @Override public Void visitSynchronized(SynchronizedTree tree, Void v) {
            refuse(tree, "synchronized");
            return super.visitSynchronized(tree, v);
        }

        @Override public Void visitAssert(AssertTree tree, Void v) {
            refuse(tree, "assert");
            return super.visitAssert(tree, v);
        }

        @Override public Void visitLambdaExpression(LambdaExpressionTree tree, Void v) {
            refuse(tree, "lambda");
            return super.visitLambdaExpression(tree, v);
        }

        @Override public Void visitMemberReference(MemberReferenceTree tree, Void v) {
            refuse(tree, "method reference");
            return super.visitMemberReference(tree, v);
        }

        @Override public Void visitBinary(BinaryTree tree, Void v) {
            if (tree.getKind() == Tree.Kind.PLUS && isText()) {
                refuse(tree, "texts joined by +");
            }
            return super.visitBinary(tree, v);
        }

        @Override public Void visitCompoundAssignment(CompoundAssignmentTree tree, Void v) {
            if (isText()) {
                refuse(tree, "texts joined by +=");
            }
            return super.visitCompoundAssignment(tree, v);
        }

        private boolean isText() {
            TypeMirror type = trees.getTypeMirror(getCurrentPath());
            return type != null && type.toString().equals("java.lang.String");
        }

        @Override public Void visitClass(ClassTree tree, Void v) {
            classes++;
            boolean isOuter = getCurrentPath().getParentPath().getLeaf() == unit;
            if (!isOuter && !(getCurrentPath().getParentPath().getLeaf() instanceof ClassTree)) {
                refuse(tree, "a class inside a method");
            }
            if (!isOuter && !tree.getModifiers().getFlags().contains(javax.lang.model.element.Modifier.STATIC)) {
                refuse(tree, "an inner class that is not static");
            }
            int fields = 0;
            for (Tree member : tree.getMembers()) {
                if (member.getKind() == Tree.Kind.BLOCK) {
                    refuse(member, "an initialiser block");
                }
                if (member instanceof VariableTree && !judgeStatic((VariableTree) member)) {
                    fields++;
                }
            }
            if (fields > FIELDS_MOST) {
                refuse(tree, "fields: " + fields);
            }
            return super.visitClass(tree, v);
        }

        private boolean judgeStatic(VariableTree field) {
            Set<javax.lang.model.element.Modifier> flags = field.getModifiers().getFlags();
            boolean isStatic = flags.contains(javax.lang.model.element.Modifier.STATIC);
            if (isStatic && !flags.contains(javax.lang.model.element.Modifier.FINAL)) {
                refuse(field, "a static field that is not final");
            }
            boolean isValues = field.getInitializer() != null && field.getInitializer().toString().endsWith(".values()");
            if (isStatic && !isValues && !field.getType().toString().matches("(int|long|char|byte)(\\[\\])?|boolean|String")) {
                refuse(field, "a static field of type " + field.getType());
            }
            return isStatic;
        }

        @Override public Void visitMethod(MethodTree tree, Void v) {
            Element element = trees.getElement(getCurrentPath());
            method = nameOf(element);
            calls.put(method, new TreeSet<>());
            if (tree.getParameters().size() > PARAMETERS_MOST) {
                refuse(tree, "parameters: " + tree.getParameters().size());
            }
            long first = unit.getLineMap().getLineNumber(trees.getSourcePositions().getStartPosition(unit, tree));
            long end = trees.getSourcePositions().getEndPosition(unit, tree);
            long lines = end < 0 ? 0 : unit.getLineMap().getLineNumber(end) - first + 1;
            if (lines > LINES_MOST) {
                refuse(tree, "lines: " + lines);
            }
            boolean isFace = element.getModifiers().contains(javax.lang.model.element.Modifier.PUBLIC);
            if (!isFace && isFaceName(tree.getName().toString())) {
                refuse(tree, "a method of its own that bears a public one's name");
            }
            super.visitMethod(tree, v);
            method = "";
            return null;
        }

        private static boolean isFaceName(String name) {
            for (Method m : SailingDirections.class.getDeclaredMethods()) {
                if (Modifier.isPublic(m.getModifiers()) && m.getName().equals(name)) {
                    return true;
                }
            }
            return false;
        }

        @Override public Void visitNewClass(NewClassTree tree, Void v) {
            if (tree.getClassBody() != null) {
                refuse(tree, "an anonymous class");
            }
            note(tree);
            return super.visitNewClass(tree, v);
        }

        @Override public Void visitMethodInvocation(MethodInvocationTree tree, Void v) {
            note(tree);
            return super.visitMethodInvocation(tree, v);
        }

        private void note(Tree tree) {
            Element element = trees.getElement(getCurrentPath());
            if (!(element instanceof ExecutableElement)) {
                refuse(tree, "a call of something unknown");
                return;
            }
            String owner = element.getEnclosingElement().toString();
            if (owner.startsWith("SailingDirections")) {
                calls.computeIfAbsent(method, k -> new TreeSet<>()).add(nameOf(element));
                return;
            }
            String name = element.getSimpleName().toString();
            String left = LIBRARY.get(element.getEnclosingElement().getSimpleName().toString());
            if (left == null || !name.matches(left)) {
                refuse(tree, "the library's " + owner + "." + name);
            }
        }

        private static String nameOf(Element element) {
            return element.getEnclosingElement() + "." + element;
        }
    }
}
