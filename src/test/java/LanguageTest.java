import com.sun.source.tree.AssertTree;
import com.sun.source.tree.BinaryTree;
import com.sun.source.tree.BlockTree;
import com.sun.source.tree.ClassTree;
import com.sun.source.tree.CompilationUnitTree;
import com.sun.source.tree.DoWhileLoopTree;
import com.sun.source.tree.ForLoopTree;
import com.sun.source.tree.ImportTree;
import com.sun.source.tree.LambdaExpressionTree;
import com.sun.source.tree.LineMap;
import com.sun.source.tree.MemberReferenceTree;
import com.sun.source.tree.MethodInvocationTree;
import com.sun.source.tree.MethodTree;
import com.sun.source.tree.NewArrayTree;
import com.sun.source.tree.NewClassTree;
import com.sun.source.tree.SynchronizedTree;
import com.sun.source.tree.ThrowTree;
import com.sun.source.tree.Tree;
import com.sun.source.tree.TryTree;
import com.sun.source.tree.VariableTree;
import com.sun.source.tree.WhileLoopTree;
import com.sun.source.util.JavacTask;
import com.sun.source.util.TreePath;
import com.sun.source.util.TreePathScanner;
import com.sun.source.util.Trees;
import java.io.IOException;
import java.nio.file.Path;
import java.util.HashMap;
import java.util.HashSet;
import java.util.List;
import java.util.Map;
import java.util.Set;
import javax.lang.model.element.Element;
import javax.lang.model.element.ElementKind;
import javax.lang.model.element.ExecutableElement;
import javax.lang.model.element.Modifier;
import javax.lang.model.element.VariableElement;
import javax.tools.JavaCompiler;
import javax.tools.StandardJavaFileManager;
import javax.tools.ToolProvider;

/**
 * The rules of LANGUAGE.md, by number, as the compiler's own tree of the file shows them. It is
 * narrower than the rules where the class needs less: no recursion, no object made behind the
 * constructor, and of the library only the methods that stand here.
 */
public final class LanguageTest {
    private static final Path FILE = Path.of("src/main/java/ToastCourt.java");
    private static final Set<String> LIBRARY = Set.of(
        "java.lang.String.length", "java.lang.String.charAt", "java.lang.Integer.bitCount", "java.lang.Math.max",
        "java.lang.Math.min", "java.lang.System.arraycopy");
    private static final Set<String> CONSTANTS = Set.of(
        "int", "long", "boolean", "char", "java.lang.String", "int[]", "long[]", "char[]", "byte[]");
    private static final Set<String> NUMBERS = Set.of("int", "long", "boolean", "char", "byte", "short");
    private static final int MOST_CLASSES = 12;
    private static final int MOST_FIELDS = 20;
    private static final int MOST_LINES = 60;
    private static final int MOST_PARAMETERS = 7;
    private static final int MOST_DEEP = 8;

    public static void main(String[] args) throws IOException {
        JavaCompiler compiler = ToolProvider.getSystemJavaCompiler();
        try (StandardJavaFileManager files = compiler.getStandardFileManager(null, null, null)) {
            JavacTask task = (JavacTask) compiler.getTask(null, files, null, List.of("-proc:none"), null,
                files.getJavaFileObjects(FILE));
            CompilationUnitTree unit = task.parse().iterator().next();
            task.analyze();
            Look look = new Look(unit, Trees.instance(task));
            look.scan(unit, null);
            look.whole();
        }
        Due.end("LanguageTest");
    }

    private static final class Look extends TreePathScanner<Void, Void> {
        private final CompilationUnitTree unit;
        private final Trees trees;
        private final Map<Element, Set<Element>> calls = new HashMap<>();
        private Element caller;
        private int classes = 0;

        private Look(CompilationUnitTree unit, Trees trees) {
            this.unit = unit;
            this.trees = trees;
        }

        private void holds(int rule, Tree at, String what, boolean isSo) {
            long line = unit.getLineMap().getLineNumber(trees.getSourcePositions().getStartPosition(unit, at));
            Due.due("rule " + rule + ", line " + line + ": " + what, isSo ? 1 : 0, 1);
        }

        private Element element(Tree tree) {
            return trees.getElement(new TreePath(getCurrentPath(), tree));
        }

        private Element here() {
            return trees.getElement(getCurrentPath());
        }

        private static boolean isOwn(Element one) {
            Element at = one;
            while (at != null && !at.toString().equals("ToastCourt")) {
                at = at.getEnclosingElement();
            }
            return at != null;
        }

        private static boolean isOwnType(String type) {
            return type.startsWith("ToastCourt.");
        }

        private int lines(Tree tree) {
            LineMap map = unit.getLineMap();
            long from = map.getLineNumber(trees.getSourcePositions().getStartPosition(unit, tree));
            long to = map.getLineNumber(trees.getSourcePositions().getEndPosition(unit, tree));
            return (int) (to - from + 1);
        }

        /** What only the whole file tells. */
        private void whole() {
            holds(1, unit, "no package line", unit.getPackage() == null);
            holds(1, unit, "one class outside", unit.getTypeDecls().size() == 1);
            holds(11, unit, classes + " classes", classes >= 1 && classes <= MOST_CLASSES);
            for (Element from : calls.keySet()) {
                int deep = deep(from, new HashSet<>());
                holds(11, unit, from + " goes " + deep + " deep", deep <= MOST_DEEP);
            }
        }

        /** How many methods stand open at once at most, this one too; a recursion counts as too deep. */
        private int deep(Element from, Set<Element> open) {
            if (!open.add(from)) {
                return MOST_DEEP + 1;
            }
            int most = 0;
            for (Element to : calls.getOrDefault(from, Set.of())) {
                most = Math.max(most, deep(to, open));
            }
            open.remove(from);
            return Math.min(1 + most, MOST_DEEP + 1);
        }

        @Override
        public Void visitClass(ClassTree tree, Void none) {
            classes++;
            boolean isOutside = getCurrentPath().getParentPath().getLeaf() == unit;
            boolean isMember = getCurrentPath().getParentPath().getLeaf() instanceof ClassTree;
            holds(2, tree, "a class inside is a member", isOutside || isMember);
            holds(2, tree, "a class inside is static", isOutside || here().getModifiers().contains(Modifier.STATIC));
            holds(2, tree, "a class, not another sort", tree.getKind() == Tree.Kind.CLASS);
            holds(2, tree, "under no other class", tree.getExtendsClause() == null && tree.getImplementsClause().isEmpty());
            int fields = 0;
            for (Tree member : tree.getMembers()) {
                holds(5, member, "no block of a class", !(member instanceof BlockTree));
                if (member instanceof VariableTree && !element(member).getModifiers().contains(Modifier.STATIC)) {
                    fields++;
                }
            }
            holds(11, tree, fields + " fields", fields <= MOST_FIELDS);
            return super.visitClass(tree, none);
        }

        @Override
        public Void visitMethod(MethodTree tree, Void none) {
            holds(11, tree, tree.getName() + " takes seven at most", tree.getParameters().size() <= MOST_PARAMETERS);
            holds(11, tree, tree.getName() + " is short", lines(tree) <= MOST_LINES);
            holds(7, tree, tree.getName() + " throws nothing", tree.getThrows().isEmpty());
            caller = here();
            calls.computeIfAbsent(caller, one -> new HashSet<>());
            super.visitMethod(tree, none);
            caller = null;
            return null;
        }

        @Override
        public Void visitVariable(VariableTree tree, Void none) {
            VariableElement one = (VariableElement) here();
            String type = one.asType().toString();
            boolean isStatic = one.getModifiers().contains(Modifier.STATIC);
            if (isStatic) {
                holds(5, tree, one + " is final", one.getModifiers().contains(Modifier.FINAL));
                holds(5, tree, one + " is a constant", CONSTANTS.contains(type) && tree.getInitializer() != null);
            }
            String row = type.endsWith("[]") ? type.substring(0, type.length() - 2) : type;
            boolean isKnown = NUMBERS.contains(row) || row.equals("java.lang.String") || isOwnType(row);
            holds(3, tree, one + " is of a type that is left: " + type, isKnown);
            return super.visitVariable(tree, none);
        }

        @Override
        public Void visitMethodInvocation(MethodInvocationTree tree, Void none) {
            ExecutableElement to = (ExecutableElement) here();
            if (isOwn(to)) {
                if (caller != null) {
                    calls.get(caller).add(to);
                }
            } else if (to.getKind() != ElementKind.CONSTRUCTOR) {
                String name = to.getEnclosingElement() + "." + to.getSimpleName();
                holds(4, tree, name + " is of the library that is left", LIBRARY.contains(name));
            }
            return super.visitMethodInvocation(tree, none);
        }

        /** An object is made by a constructor or for a field, so that calls make none. */
        private void isMadeFirst(Tree tree) {
            boolean isFirst = caller == null || caller.getKind() == ElementKind.CONSTRUCTOR;
            holds(12, tree, "made by a constructor", isFirst);
        }

        @Override
        public Void visitNewClass(NewClassTree tree, Void none) {
            isMadeFirst(tree);
            holds(2, tree, "no class without a name", tree.getClassBody() == null);
            holds(4, tree, "an object of a class inside", isOwn(here()));
            return super.visitNewClass(tree, none);
        }

        @Override
        public Void visitNewArray(NewArrayTree tree, Void none) {
            isMadeFirst(tree);
            holds(3, tree, "an array of one dimension", tree.getDimensions().size() <= 1);
            return super.visitNewArray(tree, none);
        }

        @Override
        public Void visitBinary(BinaryTree tree, Void none) {
            boolean isSame = tree.getKind() == Tree.Kind.EQUAL_TO || tree.getKind() == Tree.Kind.NOT_EQUAL_TO;
            String left = type(tree.getLeftOperand());
            holds(6, tree, "only numbers are held against one another", !isSame || NUMBERS.contains(left));
            holds(10, tree, "texts are not joined by +", !left.equals("java.lang.String"));
            return super.visitBinary(tree, none);
        }

        private String type(Tree tree) {
            return trees.getTypeMirror(new TreePath(getCurrentPath(), tree)).toString();
        }

        @Override
        public Void visitForLoop(ForLoopTree tree, Void none) {
            holds(9, tree, "a loop with a counter and a bound",
                tree.getCondition() != null && tree.getUpdate().size() == 1);
            return super.visitForLoop(tree, none);
        }

        @Override
        public Void visitWhileLoop(WhileLoopTree tree, Void none) {
            // Here a counter against a size comes first in each.
            holds(9, tree, "a loop with a bound: " + tree.getCondition(),
                tree.getCondition().toString().matches("\\(\\w+ < [\\w.]*size\\b.*"));
            return super.visitWhileLoop(tree, none);
        }

        @Override
        public Void visitDoWhileLoop(DoWhileLoopTree tree, Void none) {
            holds(9, tree, "no loop whose end isn't looked at first", false);
            return super.visitDoWhileLoop(tree, none);
        }

        @Override
        public Void visitImport(ImportTree tree, Void none) {
            holds(4, tree, "nothing is brought in", false);
            return super.visitImport(tree, none);
        }

        @Override
        public Void visitLambdaExpression(LambdaExpressionTree tree, Void none) {
            holds(2, tree, "no lambda", false);
            return super.visitLambdaExpression(tree, none);
        }

        @Override
        public Void visitMemberReference(MemberReferenceTree tree, Void none) {
            holds(2, tree, "no method reference", false);
            return super.visitMemberReference(tree, none);
        }

        @Override
        public Void visitThrow(ThrowTree tree, Void none) {
            holds(6, tree, "no throw", false);
            return super.visitThrow(tree, none);
        }

        @Override
        public Void visitTry(TryTree tree, Void none) {
            holds(6, tree, "no try", false);
            return super.visitTry(tree, none);
        }

        @Override
        public Void visitSynchronized(SynchronizedTree tree, Void none) {
            holds(6, tree, "no synchronized", false);
            return super.visitSynchronized(tree, none);
        }

        @Override
        public Void visitAssert(AssertTree tree, Void none) {
            holds(6, tree, "no assert", false);
            return super.visitAssert(tree, none);
        }
    }
}
