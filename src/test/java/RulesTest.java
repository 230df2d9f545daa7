import com.sun.source.tree.BinaryTree;
import com.sun.source.tree.CompoundAssignmentTree;
import com.sun.source.tree.MethodInvocationTree;
import com.sun.source.tree.MethodTree;
import com.sun.source.tree.NewClassTree;
import com.sun.source.tree.Tree;
import com.sun.source.tree.VariableTree;
import com.sun.source.util.JavacTask;
import com.sun.source.util.TreePath;
import com.sun.source.util.TreePathScanner;
import com.sun.source.util.Trees;
import java.io.File;
import java.io.IOException;
import java.util.ArrayDeque;
import java.util.Deque;
import java.util.HashMap;
import java.util.LinkedHashMap;
import java.util.LinkedHashSet;
import java.util.List;
import java.util.Map;
import java.util.Set;
import javax.lang.model.element.Element;
import javax.lang.model.element.ExecutableElement;
import javax.lang.model.element.Modifier;
import javax.lang.model.type.TypeMirror;
import javax.tools.JavaCompiler;
import javax.tools.StandardJavaFileManager;
import javax.tools.ToolProvider;

/** The rules of LANGUAGE.md that need the compiler's view of the class: its types, its library, how deep its calls go. */
public final class RulesTest {
    private static final int MOST_DEEP = 8;

    /** Fewer than rule 4 lists: a function that the class begins to use is looked up there first, and put here. */
    private static final Set<String> LIBRARY = Set.of("Object.<init>", "String.length", "String.charAt", "Array.clone",
            "System.arraycopy", "Math.abs", "Math.min", "Math.floorDiv", "Integer.bitCount");
    private static final Set<String> TYPES = Set.of("void", "int", "long", "char", "boolean", "int[]", "long[]", "long[][]",
            "java.lang.String");

    private static int wrong = 0;

    public static void main(String[] args) throws IOException {
        Look look = look();
        int deepest = 0;
        for (ExecutableElement method : look.calls.keySet()) {
            if (method.getModifiers().contains(Modifier.PUBLIC)) {
                deepest = Math.max(deepest, look.depthOf(method, new ArrayDeque<>()));
            }
        }
        expect(deepest <= MOST_DEEP, "calls go at most eight deep (rule 11), not " + deepest);
        expect(look.calls.size() > 100, "the methods are seen: " + look.calls.size());
        System.out.println(wrong == 0 ? look.calls.size() + " methods keep to the rules, " + deepest + " deep at most"
                : wrong + " things are not as the rules ask");
        if (wrong != 0) {
            System.exit(1);
        }
    }

    private static void expect(boolean isTrue, String what) {
        if (!isTrue) {
            wrong++;
            System.out.println("not so: " + what);
        }
    }

    private static Look look() throws IOException {
        JavaCompiler compiler = ToolProvider.getSystemJavaCompiler();
        try (StandardJavaFileManager files = compiler.getStandardFileManager(null, null, null)) {
            JavacTask task = (JavacTask) compiler.getTask(null, files, null, List.of("-proc:none"), null,
                    files.getJavaFileObjects(new File("src/main/java/BlackSun.java")));
            Look look = new Look(Trees.instance(task));
            Iterable<? extends Tree> units = task.parse();
            task.analyze();
            for (Tree unit : units) {
                look.scan(unit, null);
            }
            return look;
        }
    }

    private static final class Look extends TreePathScanner<Void, Void> {
        final Map<ExecutableElement, Set<ExecutableElement>> calls = new LinkedHashMap<>();
        private final Map<ExecutableElement, Integer> depths = new HashMap<>();
        private final Trees trees;
        private ExecutableElement inside;

        Look(Trees trees) {
            this.trees = trees;
        }

        int depthOf(ExecutableElement method, Deque<ExecutableElement> open) {
            if (open.contains(method)) {
                expect(false, method + " calls itself (rule 8, and nothing in the document needs it)");
                return 0;
            }
            if (!depths.containsKey(method)) {
                open.push(method);
                int deepest = 0;
                for (ExecutableElement called : calls.getOrDefault(method, Set.of())) {
                    deepest = Math.max(deepest, depthOf(called, open));
                }
                open.pop();
                depths.put(method, deepest + 1);
            }
            return depths.get(method);
        }

        @Override
        public Void visitMethod(MethodTree tree, Void none) {
            inside = (ExecutableElement) trees.getElement(getCurrentPath());
            calls.computeIfAbsent(inside, m -> new LinkedHashSet<>());
            isAllowed(inside.getReturnType());
            super.visitMethod(tree, none);
            inside = null;
            return none;
        }

        @Override
        public Void visitVariable(VariableTree tree, Void none) {
            isAllowed(trees.getElement(getCurrentPath()).asType());
            return super.visitVariable(tree, none);
        }

        @Override
        public Void visitMethodInvocation(MethodInvocationTree tree, Void none) {
            isCalled();
            return super.visitMethodInvocation(tree, none);
        }

        @Override
        public Void visitNewClass(NewClassTree tree, Void none) {
            isCalled();
            return super.visitNewClass(tree, none);
        }

        @Override
        public Void visitBinary(BinaryTree tree, Void none) {
            isNoText(tree, tree.getKind() == Tree.Kind.PLUS);
            if (tree.getKind() == Tree.Kind.EQUAL_TO || tree.getKind() == Tree.Kind.NOT_EQUAL_TO) {
                String left = typeOf(tree.getLeftOperand());
                expect(!left.equals("java.lang.String"), "no texts compared by their places (rule 6): " + tree);
            }
            return super.visitBinary(tree, none);
        }

        @Override
        public Void visitCompoundAssignment(CompoundAssignmentTree tree, Void none) {
            isNoText(tree, true);
            return super.visitCompoundAssignment(tree, none);
        }

        private void isNoText(Tree tree, boolean isJoining) {
            expect(!isJoining || !typeOf(tree).equals("java.lang.String"), "no texts joined by + (rule 10): " + tree);
        }

        private String typeOf(Tree tree) {
            return String.valueOf(trees.getTypeMirror(new TreePath(getCurrentPath(), tree)));
        }

        private void isCalled() {
            ExecutableElement called = (ExecutableElement) trees.getElement(getCurrentPath());
            Element owner = called.getEnclosingElement();
            if (!isOwn(owner.toString())) {
                String name = owner.getSimpleName() + "." + called.getSimpleName();
                expect(LIBRARY.contains(name), "nothing of the library but what rule 4 lists: " + name);
            } else if (inside != null) {
                calls.get(inside).add(called);
            }
        }

        private static void isAllowed(TypeMirror type) {
            String name = type.toString();
            String bare = name.endsWith("[]") ? name.substring(0, name.length() - 2) : name;
            expect(TYPES.contains(name) || isOwn(bare), "types as rule 3 lists them: " + name);
        }

        private static boolean isOwn(String type) {
            return type.equals("BlackSun") || type.startsWith("BlackSun.");
        }
    }
}
