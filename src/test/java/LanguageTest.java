import com.sun.source.tree.AssertTree;
import com.sun.source.tree.BinaryTree;
import com.sun.source.tree.ClassTree;
import com.sun.source.tree.CompilationUnitTree;
import com.sun.source.tree.CompoundAssignmentTree;
import com.sun.source.tree.ExpressionTree;
import com.sun.source.tree.LambdaExpressionTree;
import com.sun.source.tree.MemberReferenceTree;
import com.sun.source.tree.MethodInvocationTree;
import com.sun.source.tree.MethodTree;
import com.sun.source.tree.NewClassTree;
import com.sun.source.tree.SynchronizedTree;
import com.sun.source.tree.ThrowTree;
import com.sun.source.tree.Tree;
import com.sun.source.tree.TryTree;
import com.sun.source.tree.VariableTree;
import com.sun.source.util.JavacTask;
import com.sun.source.util.TreePathScanner;
import com.sun.source.util.Trees;
import java.io.IOException;
import java.nio.file.Path;
import java.util.HashSet;
import java.util.LinkedHashMap;
import java.util.List;
import java.util.Map;
import java.util.Set;
import java.util.TreeSet;
import javax.lang.model.element.Element;
import javax.lang.model.element.ElementKind;
import javax.lang.model.element.Modifier;
import javax.lang.model.element.TypeElement;
import javax.tools.JavaCompiler;
import javax.tools.StandardJavaFileManager;
import javax.tools.ToolProvider;

/**
 * The class keeps to those rules of LANGUAGE.md that a compiler's tree can tell: 2 and 6 (what
 * must not stand there), 4 (the library), 5 (static fields), 8 (recursion carries its depth), 10
 * (no texts joined by +) and 11 (sizes, and how deep calls go).
 */
public final class LanguageTest {
    private static final Path CLASS = Path.of("src", "main", "java", "AlmondCabinet.java");
    private static final int MOST_PARAMETERS = 7;
    private static final int MOST_LINES = 60;
    private static final int DEEPEST_CALL = 8;
    private static final int MOST_CLASSES = 12;
    private static final int MOST_FIELDS = 20;

    private static final Set<String> NUMBERS_LIBRARY = Set.of("java.lang.Integer", "java.lang.Long", "java.lang.Math");
    private static final Set<String> LIBRARY = Set.of(
            "java.lang.String.length", "java.lang.String.charAt", "java.lang.String.isEmpty",
            "java.lang.String.equals", "java.lang.String.indexOf", "java.lang.String.substring",
            "java.lang.String.toCharArray", "java.lang.StringBuilder.append", "java.lang.StringBuilder.charAt",
            "java.lang.StringBuilder.setCharAt", "java.lang.StringBuilder.setLength",
            "java.lang.StringBuilder.deleteCharAt", "java.lang.StringBuilder.reverse",
            "java.lang.StringBuilder.length", "java.lang.StringBuilder.toString", "java.lang.System.arraycopy",
            "java.util.Arrays.copyOf", "java.util.Arrays.copyOfRange", "java.util.Arrays.fill");
    private static final Set<String> EXCEPTIONS = Set.of(
            "IllegalStateException", "IllegalArgumentException", "IndexOutOfBoundsException", "ArithmeticException",
            "UnsupportedOperationException", "NoSuchElementException", "RuntimeException");
    private static final Set<String> STATIC_TYPES = Set.of(
            "int", "long", "boolean", "char", "String", "int[]", "long[]", "char[]", "byte[]");

    private static int wrong = 0;

    private static void check(boolean holds, String what) {
        if (!holds) {
            wrong++;
            System.out.println(what);
        }
    }

    /** One walk over the class; on its way it notes who calls whom. */
    private static final class Walk extends TreePathScanner<Void, String> {
        private final Trees trees;
        private final CompilationUnitTree unit;
        private final Map<String, Set<String>> calls = new LinkedHashMap<>();
        private final Set<String> carryDepth = new HashSet<>();
        private final Set<String> face = new TreeSet<>();
        private int classes = 0;

        Walk(Trees trees, CompilationUnitTree unit) {
            this.trees = trees;
            this.unit = unit;
        }

        private static String nameOf(Element method) {
            return ((TypeElement) method.getEnclosingElement()).getQualifiedName() + "." + method.getSimpleName();
        }

        private Element elementHere() {
            return trees.getElement(getCurrentPath());
        }

        private int linesOf(Tree tree) {
            long from = trees.getSourcePositions().getStartPosition(unit, tree);
            long to = trees.getSourcePositions().getEndPosition(unit, tree);
            return (int) (unit.getLineMap().getLineNumber(to) - unit.getLineMap().getLineNumber(from)) + 1;
        }

        @Override
        public Void visitClass(ClassTree tree, String inside) {
            classes++;
            boolean local = getCurrentPath().getParentPath().getLeaf().getKind() == Tree.Kind.BLOCK;
            check(!local, "rule 2: a local class " + tree.getSimpleName());
            int fields = 0;
            for (Tree member : tree.getMembers()) {
                if (member instanceof VariableTree field) {
                    boolean shared = field.getModifiers().getFlags().contains(Modifier.STATIC);
                    fields += shared ? 0 : 1;
                }
                check(member.getKind() != Tree.Kind.BLOCK, "rule 5: an initialiser block in " + tree.getSimpleName());
            }
            boolean isEnum = tree.getKind() == Tree.Kind.ENUM;
            check(isEnum || fields <= MOST_FIELDS, "rule 11: " + fields + " fields in " + tree.getSimpleName());
            return super.visitClass(tree, inside);
        }

        @Override
        public Void visitVariable(VariableTree tree, String inside) {
            Element element = elementHere();
            boolean shared = element.getKind() == ElementKind.FIELD && element.getModifiers().contains(Modifier.STATIC);
            if (shared) {
                boolean values = String.valueOf(tree.getInitializer()).equals("values()");
                check(element.getModifiers().contains(Modifier.FINAL), "rule 5: not final: " + tree);
                check(values || STATIC_TYPES.contains(tree.getType().toString()), "rule 5: its type: " + tree);
            }
            return super.visitVariable(tree, inside);
        }

        @Override
        public Void visitMethod(MethodTree tree, String inside) {
            String name = nameOf(elementHere());
            calls.putIfAbsent(name, new TreeSet<>());
            if (tree.getModifiers().getFlags().contains(Modifier.PUBLIC)) {
                face.add(name);
            }
            for (VariableTree parameter : tree.getParameters()) {
                if (parameter.getName().contentEquals("depth")) {
                    carryDepth.add(name);
                }
            }
            check(tree.getParameters().size() <= MOST_PARAMETERS, "rule 11: too many parameters: " + name);
            check(linesOf(tree) <= MOST_LINES, "rule 11: " + linesOf(tree) + " lines: " + name);
            return super.visitMethod(tree, name);
        }

        @Override
        public Void visitMethodInvocation(MethodInvocationTree tree, String inside) {
            Element called = elementHere();
            String name = nameOf(called);
            String owner = ((TypeElement) called.getEnclosingElement()).getQualifiedName().toString();
            if (owner.startsWith("AlmondCabinet")) {
                if (inside != null && called.getKind() == ElementKind.METHOD) {
                    calls.get(inside).add(name);
                }
            } else if (called.getKind() == ElementKind.METHOD) {
                boolean ofNumbers = NUMBERS_LIBRARY.contains(owner) && !name.endsWith("Exact");
                check(ofNumbers || LIBRARY.contains(name), "rule 4: " + name + " in " + inside);
            }
            return super.visitMethodInvocation(tree, inside);
        }

        @Override
        public Void visitThrow(ThrowTree tree, String inside) {
            boolean holds = false;
            if (tree.getExpression() instanceof NewClassTree made) {
                List<? extends ExpressionTree> given = made.getArguments();
                boolean written = given.isEmpty() || given.get(0).getKind() == Tree.Kind.STRING_LITERAL;
                holds = EXCEPTIONS.contains(made.getIdentifier().toString()) && given.size() <= 1 && written;
            }
            check(holds, "rule 6: " + tree + " in " + inside);
            check(inside != null && !inside.endsWith("<init>"), "rule 6: a throw in a constructor, " + inside);
            return super.visitThrow(tree, inside);
        }

        @Override
        public Void visitTry(TryTree tree, String inside) {
            check(tree.getFinallyBlock() == null && tree.getResources().isEmpty(), "rule 6: a try in " + inside);
            return super.visitTry(tree, inside);
        }

        @Override
        public Void visitSynchronized(SynchronizedTree tree, String inside) {
            check(false, "rule 6: synchronized in " + inside);
            return super.visitSynchronized(tree, inside);
        }

        @Override
        public Void visitAssert(AssertTree tree, String inside) {
            check(false, "rule 6: assert in " + inside);
            return super.visitAssert(tree, inside);
        }

        @Override
        public Void visitLambdaExpression(LambdaExpressionTree tree, String inside) {
            check(false, "rule 2: a lambda in " + inside);
            return super.visitLambdaExpression(tree, inside);
        }

        @Override
        public Void visitMemberReference(MemberReferenceTree tree, String inside) {
            check(false, "rule 2: a method reference in " + inside);
            return super.visitMemberReference(tree, inside);
        }

        private boolean isText(Tree tree) {
            return trees.getTypeMirror(new com.sun.source.util.TreePath(getCurrentPath(), tree)).toString()
                    .equals("java.lang.String");
        }

        @Override
        public Void visitBinary(BinaryTree tree, String inside) {
            boolean texts = tree.getKind() == Tree.Kind.PLUS && isText(tree);
            check(!texts, "rule 10: texts joined by + in " + inside);
            return super.visitBinary(tree, inside);
        }

        @Override
        public Void visitCompoundAssignment(CompoundAssignmentTree tree, String inside) {
            check(!isText(tree.getVariable()), "rule 10: texts joined by += in " + inside);
            return super.visitCompoundAssignment(tree, inside);
        }

        // ---- who calls whom

        private Set<String> reached(String from) {
            Set<String> all = new TreeSet<>();
            Set<String> fresh = new TreeSet<>(calls.getOrDefault(from, Set.of()));
            while (!fresh.isEmpty()) {
                all.addAll(fresh);
                Set<String> next = new TreeSet<>();
                for (String name : fresh) {
                    next.addAll(calls.getOrDefault(name, Set.of()));
                }
                next.removeAll(all);
                fresh = next;
            }
            return all;
        }

        /** Methods that call one another are one level, however often they do. */
        private int depthOf(String method) {
            Set<String> circle = new TreeSet<>(Set.of(method));
            for (String name : reached(method)) {
                if (reached(name).contains(method)) {
                    circle.add(name);
                }
            }
            int below = 0;
            for (String name : circle) {
                for (String called : calls.getOrDefault(name, Set.of())) {
                    below = circle.contains(called) ? below : Math.max(below, depthOf(called));
                }
            }
            return below + 1;
        }

        private void checkCalls() {
            for (String name : calls.keySet()) {
                boolean recursive = reached(name).contains(name);
                check(!recursive || carryDepth.contains(name), "rule 8: recursion without a depth: " + name);
            }
            for (String name : face) {
                check(depthOf(name) <= DEEPEST_CALL, "rule 11: calls go " + depthOf(name) + " deep: " + name);
            }
            check(classes <= MOST_CLASSES, "rule 11: " + classes + " classes");
            check(face.size() > 49 && calls.size() > face.size(), "the walk found too little: " + calls.size());
        }
    }

    public static void main(String[] args) throws IOException {
        JavaCompiler compiler = ToolProvider.getSystemJavaCompiler();
        StandardJavaFileManager files = compiler.getStandardFileManager(null, null, null);
        JavacTask task = (JavacTask) compiler.getTask(null, files, null, List.of("--release", "17"), null,
                files.getJavaFileObjects(CLASS));
        CompilationUnitTree unit = task.parse().iterator().next();
        task.analyze();
        Walk walk = new Walk(Trees.instance(task), unit);
        walk.scan(unit, null);
        walk.checkCalls();
        System.out.println(wrong == 0 ? "the rules hold" : wrong + " wrong");
        System.exit(wrong == 0 ? 0 : 1);
    }
}
