import com.sun.source.tree.AssertTree;
import com.sun.source.tree.BinaryTree;
import com.sun.source.tree.BlockTree;
import com.sun.source.tree.ClassTree;
import com.sun.source.tree.CompilationUnitTree;
import com.sun.source.tree.DoWhileLoopTree;
import com.sun.source.tree.EnhancedForLoopTree;
import com.sun.source.tree.ForLoopTree;
import com.sun.source.tree.LambdaExpressionTree;
import com.sun.source.tree.LiteralTree;
import com.sun.source.tree.MemberReferenceTree;
import com.sun.source.tree.MethodInvocationTree;
import com.sun.source.tree.MethodTree;
import com.sun.source.tree.NewArrayTree;
import com.sun.source.tree.NewClassTree;
import com.sun.source.tree.SynchronizedTree;
import com.sun.source.tree.ThrowTree;
import com.sun.source.tree.Tree;
import com.sun.source.tree.TryTree;
import com.sun.source.tree.TypeCastTree;
import com.sun.source.tree.VariableTree;
import com.sun.source.tree.WhileLoopTree;
import com.sun.source.util.JavacTask;
import com.sun.source.util.TreePath;
import com.sun.source.util.TreePathScanner;
import com.sun.source.util.Trees;
import java.io.IOException;
import java.util.LinkedHashMap;
import java.util.LinkedHashSet;
import java.util.List;
import java.util.Map;
import java.util.Set;
import javax.lang.model.element.Element;
import javax.lang.model.element.Modifier;
import javax.lang.model.type.TypeKind;
import javax.lang.model.type.TypeMirror;
import javax.tools.JavaCompiler;
import javax.tools.StandardJavaFileManager;
import javax.tools.ToolProvider;

/** LANGUAGE.md, rule by rule, as far as the compiler's own tree of the file can tell. Rule 1 is FaceTest's. */
public final class LanguageTest {
    private static final Check CHECK = new Check();
    private static final int MOST_CLASSES = 12, MOST_FIELDS = 20, MOST_PARAMETERS = 7, MOST_LINES = 60, MOST_DEEP = 8;
    /** The part of rule 4 that the class uses; more of it may be added here when it is. */
    private static final Set<String> LIBRARY = Set.of("java.lang.Math.max", "java.lang.Math.min", "java.lang.System.arraycopy",
        "java.lang.String.indexOf");
    /** The part of rule 3 that the class uses, beside its own classes and arrays of them. */
    private static final Set<String> TYPES = Set.of("int", "long", "boolean", "int[]", "java.lang.String");
    private static final Set<String> STATIC_TYPES = Set.of("int", "long", "boolean", "java.lang.String", "int[]");

    public static void main(String[] args) throws IOException {
        JavaCompiler compiler = ToolProvider.getSystemJavaCompiler();
        try (StandardJavaFileManager files = compiler.getStandardFileManager(null, null, null)) {
            JavacTask task = (JavacTask) compiler.getTask(null, files, null, List.of("-proc:none", "--release", "17"), null,
                files.getJavaFileObjects(Document.PROGRAM));
            CompilationUnitTree file = task.parse().iterator().next();
            task.analyze();
            Walk walk = new Walk(file, Trees.instance(task));
            walk.scan(file, null);
            whole(file, walk);
        }
        CHECK.end();
    }

    private static void whole(CompilationUnitTree file, Walk walk) {
        CHECK.holds("no package line", file.getPackageName() == null);
        CHECK.holds("rule 4: nothing is imported", file.getImports().isEmpty());
        CHECK.due("one class that holds all others", file.getTypeDecls().size(), 1);
        CHECK.holds("rule 11: at most " + MOST_CLASSES + " classes", walk.classes <= MOST_CLASSES);
        CHECK.holds("calls were seen", walk.calls.size() > 28);
        for (Element from : walk.calls.keySet()) {
            int deep = deepest(from, walk.calls, new LinkedHashSet<>());
            CHECK.holds("rule 11: " + from + " goes " + deep + " deep", deep <= MOST_DEEP);
        }
    }

    /** How many calls stand open at most, itself too; one that comes back to itself is told as recursion. */
    private static int deepest(Element from, Map<Element, Set<Element>> calls, Set<Element> open) {
        CHECK.holds("rule 8: " + from + " calls itself through " + open, !open.contains(from));
        if (!open.add(from)) {
            return 0;
        }
        int deep = 0;
        for (Element to : calls.getOrDefault(from, Set.of())) {
            deep = Math.max(deep, deepest(to, calls, open));
        }
        open.remove(from);
        return deep + 1;
    }

    /** One walk over the file; what a rule forbids is told with its line. */
    private static final class Walk extends TreePathScanner<Void, Void> {
        final Map<Element, Set<Element>> calls = new LinkedHashMap<>();
        int classes = 0;
        private final CompilationUnitTree file;
        private final Trees trees;
        private Element method = null;

        Walk(CompilationUnitTree file, Trees trees) {
            this.file = file;
            this.trees = trees;
        }

        private long line(Tree tree, boolean end) {
            long place = end ? trees.getSourcePositions().getEndPosition(file, tree)
                : trees.getSourcePositions().getStartPosition(file, tree);
            return file.getLineMap().getLineNumber(place);
        }

        private void rule(String what, Tree tree, boolean so) {
            CHECK.holds("rule " + what + ", line " + line(tree, false) + ": " + tree, so);
        }

        private Void never(String what, Tree tree) {
            rule(what, tree, false);
            return null;
        }

        private Element element(Tree tree) {
            return trees.getElement(new TreePath(getCurrentPath(), tree));
        }

        private TypeMirror type(Tree tree) {
            return trees.getTypeMirror(new TreePath(getCurrentPath(), tree));
        }

        private static boolean own(Element e) {
            return e.toString().startsWith("SweptGates");
        }

        private boolean inConstructor() {
            return method != null && method.getSimpleName().contentEquals("<init>");
        }

        @Override
        public Void visitClass(ClassTree tree, Void none) {
            classes++;
            Set<Modifier> how = tree.getModifiers().getFlags();
            boolean inside = getCurrentPath().getParentPath().getLeaf() instanceof ClassTree;
            boolean outermost = getCurrentPath().getParentPath().getLeaf() instanceof CompilationUnitTree;
            CHECK.holds("rule 2: " + tree.getSimpleName() + " is static", outermost || inside && how.contains(Modifier.STATIC));
            CHECK.holds("rule 12: none can override what a constructor of " + tree.getSimpleName() + " calls",
                how.contains(Modifier.FINAL));
            int fields = 0;
            for (Tree member : tree.getMembers()) {
                if (member instanceof VariableTree v && !v.getModifiers().getFlags().contains(Modifier.STATIC)) {
                    fields++;
                }
            }
            CHECK.holds("rule 11: fields of " + tree.getSimpleName(), fields <= MOST_FIELDS);
            return super.visitClass(tree, none);
        }

        @Override
        public Void visitMethod(MethodTree tree, Void none) {
            method = trees.getElement(getCurrentPath());
            calls.putIfAbsent(method, new LinkedHashSet<>());
            CHECK.holds("rule 11: parameters of " + method, tree.getParameters().size() <= MOST_PARAMETERS);
            CHECK.holds("rule 11: lines of " + method, line(tree, true) - line(tree, false) < MOST_LINES);
            CHECK.holds("rule 6: " + method + " throws", tree.getThrows().isEmpty());
            super.visitMethod(tree, none);
            method = null;
            return null;
        }

        @Override
        public Void visitMethodInvocation(MethodInvocationTree tree, Void none) {
            Element called = element(tree.getMethodSelect());
            Element owner = called.getEnclosingElement();
            if (own(owner)) {
                rule("8: a call outside a method", tree, method != null);
                calls.get(method).add(called);
            } else if (!called.getSimpleName().contentEquals("<init>")) {
                rule("4", tree, LIBRARY.contains(owner + "." + called.getSimpleName()));
            }
            return super.visitMethodInvocation(tree, none);
        }

        /** All are made by constructors, so that the room of a run does not shrink by calls. */
        @Override
        public Void visitNewClass(NewClassTree tree, Void none) {
            rule("12: made by a call", tree, inConstructor());
            rule("2: a class without a name", tree, tree.getClassBody() == null);
            if (method != null) {
                calls.get(method).add(trees.getElement(getCurrentPath()));
            }
            return super.visitNewClass(tree, none);
        }

        @Override
        public Void visitNewArray(NewArrayTree tree, Void none) {
            rule("12: made by a call", tree, method == null || inConstructor());
            return super.visitNewArray(tree, none);
        }

        @Override
        public Void visitVariable(VariableTree tree, Void none) {
            String type = type(tree.getType()).toString();
            rule("3", tree, TYPES.contains(type) || type.startsWith("SweptGates."));
            Set<Modifier> how = tree.getModifiers().getFlags();
            if (how.contains(Modifier.STATIC)) {
                rule("5", tree, how.contains(Modifier.FINAL) && STATIC_TYPES.contains(type) && tree.getInitializer() != null);
            }
            return super.visitVariable(tree, none);
        }

        @Override
        public Void visitBinary(BinaryTree tree, Void none) {
            boolean divides = tree.getKind() == Tree.Kind.DIVIDE || tree.getKind() == Tree.Kind.REMAINDER;
            boolean byNumber = tree.getRightOperand() instanceof LiteralTree n && !Integer.valueOf(0).equals(n.getValue());
            rule("7: a divisor that is looked at", tree, !divides || byNumber);
            rule("6 or 10: + == != of objects", tree,
                type(tree.getLeftOperand()).getKind().isPrimitive() && type(tree.getRightOperand()).getKind().isPrimitive());
            return super.visitBinary(tree, none);
        }

        @Override
        public Void visitTypeCast(TypeCastTree tree, Void none) {
            TypeMirror to = type(tree.getType());
            rule("6: a cast of an object", tree, to.getKind().isPrimitive());
            rule("3: of numbers with a point", tree, to.getKind() != TypeKind.DOUBLE && to.getKind() != TypeKind.FLOAT);
            return super.visitTypeCast(tree, none);
        }

        @Override
        public Void visitForLoop(ForLoopTree tree, Void none) {
            rule("9: a loop without an end", tree, tree.getCondition() != null && tree.getUpdate().size() == 1
                && tree.getInitializer().size() == 1);
            return super.visitForLoop(tree, none);
        }

        @Override
        public Void visitWhileLoop(WhileLoopTree tree, Void none) {
            return never("9: a counter is not seen", tree);
        }

        @Override
        public Void visitDoWhileLoop(DoWhileLoopTree tree, Void none) {
            return never("9: a counter is not seen", tree);
        }

        @Override
        public Void visitEnhancedForLoop(EnhancedForLoopTree tree, Void none) {
            rule("12: a list's iterator", tree, type(tree.getExpression()).getKind() == TypeKind.ARRAY);
            return super.visitEnhancedForLoop(tree, none);
        }

        @Override
        public Void visitBlock(BlockTree tree, Void none) {
            rule("5: a block of a class", tree, !(getCurrentPath().getParentPath().getLeaf() instanceof ClassTree));
            return super.visitBlock(tree, none);
        }

        @Override
        public Void visitThrow(ThrowTree tree, Void none) {
            return never("6", tree);
        }

        @Override
        public Void visitTry(TryTree tree, Void none) {
            return never("6", tree);
        }

        @Override
        public Void visitSynchronized(SynchronizedTree tree, Void none) {
            return never("6", tree);
        }

        @Override
        public Void visitAssert(AssertTree tree, Void none) {
            return never("6", tree);
        }

        @Override
        public Void visitLambdaExpression(LambdaExpressionTree tree, Void none) {
            return never("2", tree);
        }

        @Override
        public Void visitMemberReference(MemberReferenceTree tree, Void none) {
            return never("2", tree);
        }
    }
}
