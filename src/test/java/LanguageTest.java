import com.sun.source.tree.AssertTree;
import com.sun.source.tree.BinaryTree;
import com.sun.source.tree.ClassTree;
import com.sun.source.tree.CompilationUnitTree;
import com.sun.source.tree.ForLoopTree;
import com.sun.source.tree.LambdaExpressionTree;
import com.sun.source.tree.MemberReferenceTree;
import com.sun.source.tree.MethodInvocationTree;
import com.sun.source.tree.MethodTree;
import com.sun.source.tree.NewArrayTree;
import com.sun.source.tree.NewClassTree;
import com.sun.source.tree.SynchronizedTree;
import com.sun.source.tree.ThrowTree;
import com.sun.source.tree.Tree;
import com.sun.source.tree.TryTree;
import com.sun.source.tree.VariableTree;
import com.sun.source.util.JavacTask;
import com.sun.source.util.SourcePositions;
import com.sun.source.util.TreePath;
import com.sun.source.util.TreePathScanner;
import com.sun.source.util.Trees;
import java.io.File;
import java.io.IOException;
import java.util.ArrayList;
import java.util.HashMap;
import java.util.LinkedHashMap;
import java.util.LinkedHashSet;
import java.util.List;
import java.util.Map;
import java.util.Set;
import java.util.TreeSet;
import javax.lang.model.element.Element;
import javax.lang.model.element.ElementKind;
import javax.lang.model.element.Modifier;
import javax.lang.model.type.TypeMirror;
import javax.tools.JavaCompiler;
import javax.tools.StandardJavaFileManager;
import javax.tools.ToolProvider;

/** The rules of ../shared/LANGUAGE.md that can be read off the class's own lines, with the compiler's help. */
public final class LanguageTest {
    private static final Check CHECK = new Check();
    private static final File SOURCE = new File("src/main/java/ChaletRule.java");
    private static final int DEEPEST = 8;
    private static final int LONGEST_METHOD = 60;
    private static final int MOST_PARAMETERS = 7;
    private static final int MOST_CLASSES = 12;
    private static final int MOST_FIELDS = 20;
    private static final Set<String> LIBRARY = Set.of("java.lang.Object.Object()", "java.lang.String.length()",
            "java.lang.String.charAt(int)", "java.lang.Math.max(int,int)", "java.lang.Math.min(int,int)",
            "java.util.Arrays.fill(int[],int)");

    private LanguageTest() {
    }

    public static void main(String[] args) throws IOException {
        Reading reading = read();
        reading.sorts();
        reading.depth();
        CHECK.end("LanguageTest");
    }

    private static Reading read() throws IOException {
        JavaCompiler compiler = ToolProvider.getSystemJavaCompiler();
        try (StandardJavaFileManager files = compiler.getStandardFileManager(null, null, null)) {
            JavacTask task = (JavacTask) compiler.getTask(null, files, null, List.of("-proc:none"), null,
                    files.getJavaFileObjects(SOURCE));
            Iterable<? extends CompilationUnitTree> units = task.parse();
            task.analyze();
            Reading reading = new Reading(Trees.instance(task));
            for (CompilationUnitTree unit : units) {
                reading.scan(unit, null);
            }
            return reading;
        }
    }

    /** Goes through the class once, tree by tree. */
    private static final class Reading extends TreePathScanner<Void, Void> {
        private final Trees trees;
        private final Map<Element, Set<Element>> calls = new LinkedHashMap<>();
        private final Map<Element, Integer> depths = new HashMap<>();
        private final Set<String> library = new TreeSet<>();
        private int classes = 0;
        private Element method = null;

        Reading(Trees trees) {
            this.trees = trees;
        }

        private long lines(Tree tree) {
            CompilationUnitTree unit = getCurrentPath().getCompilationUnit();
            SourcePositions at = trees.getSourcePositions();
            return unit.getLineMap().getLineNumber(at.getEndPosition(unit, tree))
                    - unit.getLineMap().getLineNumber(at.getStartPosition(unit, tree)) + 1;
        }

        private void never(String what) {
            CHECK.due(what + " in " + method, true, false);
        }

        @Override
        public Void visitClass(ClassTree tree, Void none) {
            classes++;
            long fields = tree.getMembers().stream().filter(m -> m instanceof VariableTree v
                    && !v.getModifiers().getFlags().contains(Modifier.STATIC)).count();
            CHECK.due("rule 11, fields of " + tree.getSimpleName() + ": " + fields, fields <= MOST_FIELDS, true);
            boolean block = tree.getMembers().stream().anyMatch(m -> m.getKind() == Tree.Kind.BLOCK);
            CHECK.due("rule 5, a block in " + tree.getSimpleName(), block, false);
            return super.visitClass(tree, none);
        }

        @Override
        public Void visitMethod(MethodTree tree, Void none) {
            method = trees.getElement(getCurrentPath());
            calls.computeIfAbsent(method, m -> new LinkedHashSet<>());
            CHECK.due("rule 11, parameters of " + method, tree.getParameters().size() <= MOST_PARAMETERS, true);
            CHECK.due("rule 11, lines of " + method, lines(tree) <= LONGEST_METHOD, true);
            super.visitMethod(tree, none);
            method = null;
            return null;
        }

        @Override
        public Void visitVariable(VariableTree tree, Void none) {
            Element e = trees.getElement(getCurrentPath());
            if (e.getKind() == ElementKind.FIELD && e.getModifiers().contains(Modifier.STATIC)) {
                CHECK.due("rule 5, " + e + " is final", e.getModifiers().contains(Modifier.FINAL), true);
                CHECK.due("rule 5, " + e + " is a number", e.asType().getKind().isPrimitive(), true);
            }
            return super.visitVariable(tree, none);
        }

        @Override
        public Void visitMethodInvocation(MethodInvocationTree tree, Void none) {
            called(trees.getElement(new TreePath(getCurrentPath(), tree.getMethodSelect())));
            return super.visitMethodInvocation(tree, none);
        }

        private void called(Element callee) {
            String owner = callee.getEnclosingElement().toString();
            if (!owner.startsWith("ChaletRule")) {
                library.add(owner + "." + callee);
            }
            if (method != null) {
                calls.get(method).add(callee);
            }
        }

        /** Rows are made in constructors and used again; calls make nothing but what they throw. */
        @Override
        public Void visitNewClass(NewClassTree tree, Void none) {
            boolean thrown = getCurrentPath().getParentPath().getLeaf() instanceof ThrowTree;
            boolean making = method == null || method.getKind() == ElementKind.CONSTRUCTOR;
            CHECK.due("rule 12, made in " + method + ": " + tree, thrown || making, true);
            CHECK.due("rule 6, thrown in a constructor: " + tree, thrown && making, false);
            if (!thrown) {
                called(trees.getElement(getCurrentPath()));
            }
            return super.visitNewClass(tree, none);
        }

        @Override
        public Void visitNewArray(NewArrayTree tree, Void none) {
            boolean making = method == null || method.getKind() == ElementKind.CONSTRUCTOR;
            CHECK.due("rule 12, made in " + method + ": " + tree, making, true);
            return super.visitNewArray(tree, none);
        }

        @Override
        public Void visitForLoop(ForLoopTree tree, Void none) {
            CHECK.due("rule 9, a bound of the loop in " + method, tree.getCondition() != null, true);
            return super.visitForLoop(tree, none);
        }

        @Override
        public Void visitBinary(BinaryTree tree, Void none) {
            TypeMirror type = trees.getTypeMirror(getCurrentPath());
            CHECK.due("rule 10, joined texts in " + method + ": " + tree, type.getKind().isPrimitive(), true);
            return super.visitBinary(tree, none);
        }

        @Override
        public Void visitLambdaExpression(LambdaExpressionTree tree, Void none) {
            never("rule 2, a lambda");
            return super.visitLambdaExpression(tree, none);
        }

        @Override
        public Void visitMemberReference(MemberReferenceTree tree, Void none) {
            never("rule 2, a method reference");
            return super.visitMemberReference(tree, none);
        }

        @Override
        public Void visitTry(TryTree tree, Void none) {
            never("rule 6, a try that nothing here needs");
            return super.visitTry(tree, none);
        }

        @Override
        public Void visitSynchronized(SynchronizedTree tree, Void none) {
            never("rule 6, synchronized");
            return super.visitSynchronized(tree, none);
        }

        @Override
        public Void visitAssert(AssertTree tree, Void none) {
            never("rule 6, assert");
            return super.visitAssert(tree, none);
        }

        void sorts() {
            CHECK.due("rule 11, classes", classes <= MOST_CLASSES && classes > 1, true);
            for (String call : library) {
                CHECK.due("rule 4, " + call, LIBRARY.contains(call), true);
            }
        }

        /** Rules 8 and 11: only private static methods call themselves, none by way of others, and chains are short. */
        void depth() {
            CHECK.due("methods found", calls.size() > 49, true);
            for (Element start : calls.keySet()) {
                int deep = below(start, new ArrayList<>());
                CHECK.due("rule 11, calls from " + start + " are " + deep + " deep", deep <= DEEPEST, true);
            }
        }

        private int below(Element from, List<Element> open) {
            if (open.contains(from)) {
                Set<Modifier> is = from.getModifiers();
                boolean itself = open.get(open.size() - 1).equals(from);
                CHECK.due("rule 8, " + from, itself && is.contains(Modifier.PRIVATE) && is.contains(Modifier.STATIC), true);
                return 0;
            }
            Integer known = depths.get(from);
            if (known != null) {
                return known;
            }
            open.add(from);
            int deepest = 0;
            for (Element callee : calls.getOrDefault(from, Set.of())) {
                deepest = Math.max(deepest, below(callee, open));
            }
            open.remove(open.size() - 1);
            depths.put(from, deepest + 1);
            return deepest + 1;
        }
    }
}
