import com.sun.source.tree.BinaryTree;
import com.sun.source.tree.ClassTree;
import com.sun.source.tree.CompilationUnitTree;
import com.sun.source.tree.DoWhileLoopTree;
import com.sun.source.tree.EnhancedForLoopTree;
import com.sun.source.tree.ExpressionTree;
import com.sun.source.tree.ForLoopTree;
import com.sun.source.tree.IdentifierTree;
import com.sun.source.tree.MemberSelectTree;
import com.sun.source.tree.MethodInvocationTree;
import com.sun.source.tree.MethodTree;
import com.sun.source.tree.NewArrayTree;
import com.sun.source.tree.NewClassTree;
import com.sun.source.tree.Tree;
import com.sun.source.tree.VariableTree;
import com.sun.source.tree.WhileLoopTree;
import com.sun.source.util.JavacTask;
import com.sun.source.util.TreePath;
import com.sun.source.util.TreePathScanner;
import com.sun.source.util.Trees;
import java.io.IOException;
import java.nio.file.Path;
import java.util.EnumSet;
import java.util.HashSet;
import java.util.List;
import java.util.Map;
import java.util.Set;
import java.util.TreeMap;
import java.util.TreeSet;
import javax.lang.model.element.Element;
import javax.lang.model.element.ElementKind;
import javax.lang.model.element.Modifier;
import javax.lang.model.type.TypeMirror;
import javax.tools.JavaCompiler;
import javax.tools.StandardJavaFileManager;
import javax.tools.ToolProvider;

/**
 * The class as the compiler reads it, against ../shared/LANGUAGE.md. It is narrower than the rules where the class
 * needs less: what is new here, and allowed there, may be added to the lists below.
 */
public final class LanguageTest {
    private static final Path SOURCE = Path.of("src/main/java/VoteFiles.java");
    private static final int DEEPEST = 8;
    private static final Set<String> TYPES = Set.of("int", "boolean", "int[]", "boolean[]", "java.lang.String");
    private static final Set<String> CONSTANTS = Set.of("int", "long", "boolean", "char", "java.lang.String");
    private static final Set<String> LIBRARY = Set.of(
        "java.lang.String.length", "java.lang.String.charAt", "java.lang.Math.min", "java.lang.Math.max",
        "java.lang.Integer.bitCount", "java.lang.System.arraycopy");
    private static final Set<Tree.Kind> RULED_OUT = EnumSet.of(Tree.Kind.THROW, Tree.Kind.TRY, Tree.Kind.CATCH,
        Tree.Kind.SYNCHRONIZED, Tree.Kind.ASSERT, Tree.Kind.LAMBDA_EXPRESSION, Tree.Kind.MEMBER_REFERENCE,
        Tree.Kind.TYPE_CAST, Tree.Kind.ANNOTATION, Tree.Kind.IMPORT, Tree.Kind.PACKAGE, Tree.Kind.BINDING_PATTERN,
        Tree.Kind.SWITCH_EXPRESSION, Tree.Kind.YIELD);

    /** Each method, and those of the class that it calls; a constructor is a method by the name of its class. */
    private final Map<String, Set<String>> calls = new TreeMap<>();
    private final Set<String> methods = new TreeSet<>();
    private static int wrong = 0;

    private static void fail(String what) {
        wrong++;
        System.out.println("LanguageTest: " + what);
    }

    private final class Reader extends TreePathScanner<Void, String> {
        private final Trees trees;

        Reader(Trees trees) {
            this.trees = trees;
        }

        @Override
        public Void scan(Tree tree, String inside) {
            if (tree != null && RULED_OUT.contains(tree.getKind())) fail(tree.getKind() + " in " + inside + ": " + tree);
            return super.scan(tree, inside);
        }

        private Element elementOf(Tree tree) {
            return trees.getElement(TreePath.getPath(getCurrentPath(), tree));
        }

        private String typeOf(Tree tree) {
            TypeMirror type = trees.getTypeMirror(TreePath.getPath(getCurrentPath(), tree));
            return type == null ? "nothing" : type.toString();
        }

        @Override
        public Void visitClass(ClassTree tree, String inside) {
            Set<Modifier> flags = tree.getModifiers().getFlags();
            if (tree.getExtendsClause() != null || !tree.getImplementsClause().isEmpty()) fail(tree.getSimpleName() + " extends");
            if (!flags.contains(Modifier.FINAL)) fail(tree.getSimpleName() + " is not final");
            if (inside != null && !inside.equals("VoteFiles")) fail("a class inside " + inside);
            if (inside != null && !flags.contains(Modifier.STATIC)) fail(tree.getSimpleName() + " is not static");
            return super.visitClass(tree, tree.getSimpleName().toString());
        }

        @Override
        public Void visitMethod(MethodTree tree, String inside) {
            String name = nameOf(elementOf(tree));
            if (!methods.add(name)) fail("two methods " + name);
            return super.visitMethod(tree, name);
        }

        @Override
        public Void visitVariable(VariableTree tree, String inside) {
            String type = typeOf(tree);
            if (!TYPES.contains(type) && !type.startsWith("VoteFiles.")) fail(tree.getName() + " is a " + type);
            Element variable = elementOf(tree);
            boolean isStatic = variable.getModifiers().contains(Modifier.STATIC);
            if (isStatic && !variable.getModifiers().contains(Modifier.FINAL)) fail(tree.getName() + " is static, not final");
            if (isStatic && !CONSTANTS.contains(type)) fail(tree.getName() + " is a static " + type);
            // A field's first value is made within the constructor.
            boolean isField = variable.getKind() == ElementKind.FIELD;
            return super.visitVariable(tree, isField && !isStatic ? inside + "." + inside : inside);
        }

        @Override
        public Void visitMethodInvocation(MethodInvocationTree tree, String inside) {
            ExpressionTree select = tree.getMethodSelect();
            boolean isSuper = select instanceof IdentifierTree name && name.getName().contentEquals("super");
            if (!isSuper) call(inside, elementOf(select));
            return super.visitMethodInvocation(tree, inside);
        }

        @Override
        public Void visitNewClass(NewClassTree tree, String inside) {
            if (!typeOf(tree).startsWith("VoteFiles.")) fail("new " + typeOf(tree) + " in " + inside);
            call(inside, elementOf(tree));
            return super.visitNewClass(tree, inside);
        }

        private void call(String inside, Element called) {
            String owner = called.getEnclosingElement().toString();
            if (owner.equals("VoteFiles") || owner.startsWith("VoteFiles.")) {
                calls.computeIfAbsent(inside, i -> new TreeSet<>()).add(nameOf(called));
            } else if (!LIBRARY.contains(owner + "." + called.getSimpleName())) {
                fail(owner + "." + called.getSimpleName() + " is called in " + inside);
            }
        }

        private String nameOf(Element method) {
            String owner = method.getEnclosingElement().getSimpleName().toString();
            return owner + "." + (method.getKind() == ElementKind.CONSTRUCTOR ? owner : method.getSimpleName());
        }

        /** A length that the compiler knows needs no test ahead of it. */
        @Override
        public Void visitNewArray(NewArrayTree tree, String inside) {
            if (tree.getDimensions().size() != 1) fail("an array of other than one length in " + inside);
            for (ExpressionTree length : tree.getDimensions()) {
                new TreePathScanner<Void, Void>() {
                    @Override
                    public Void visitIdentifier(IdentifierTree name, Void none) {
                        constant(elementOf(name), inside);
                        return null;
                    }

                    @Override
                    public Void visitMemberSelect(MemberSelectTree name, Void none) {
                        constant(elementOf(name), inside);
                        return null;
                    }
                }.scan(TreePath.getPath(getCurrentPath(), length), null);
            }
            return super.visitNewArray(tree, inside);
        }

        private void constant(Element name, String inside) {
            boolean known = name.getModifiers().containsAll(Set.of(Modifier.STATIC, Modifier.FINAL));
            if (!known) fail("a length that is no constant in " + inside + ": " + name);
        }

        @Override
        public Void visitBinary(BinaryTree tree, String inside) {
            if (typeOf(tree).equals("java.lang.String")) fail("texts joined by + in " + inside);
            boolean divides = tree.getKind() == Tree.Kind.DIVIDE || tree.getKind() == Tree.Kind.REMAINDER;
            boolean byNumber = tree.getRightOperand().getKind() == Tree.Kind.INT_LITERAL;
            if (divides && (!byNumber || tree.getRightOperand().toString().equals("0"))) fail("a divisor in " + inside);
            return super.visitBinary(tree, inside);
        }

        @Override
        public Void visitForLoop(ForLoopTree tree, String inside) {
            if (tree.getCondition() == null || tree.getUpdate().size() != 1) fail("a loop without a counter in " + inside);
            else bounded(tree.getCondition(), inside);
            return super.visitForLoop(tree, inside);
        }

        @Override
        public Void visitWhileLoop(WhileLoopTree tree, String inside) {
            bounded(tree.getCondition(), inside);
            return super.visitWhileLoop(tree, inside);
        }

        @Override
        public Void visitDoWhileLoop(DoWhileLoopTree tree, String inside) {
            bounded(tree.getCondition(), inside);
            return super.visitDoWhileLoop(tree, inside);
        }

        @Override
        public Void visitEnhancedForLoop(EnhancedForLoopTree tree, String inside) {
            if (!typeOf(tree.getExpression()).endsWith("[]")) fail("a loop over no array in " + inside);
            return super.visitEnhancedForLoop(tree, inside);
        }

        private void bounded(ExpressionTree condition, String inside) {
            if (!condition.toString().matches("(?s).*[a-zA-Z] (<|<=|>=|>) .*")) fail("no bound: " + condition + " in " + inside);
        }
    }

    private void read() throws IOException {
        JavaCompiler compiler = ToolProvider.getSystemJavaCompiler();
        try (StandardJavaFileManager manager = compiler.getStandardFileManager(null, null, null)) {
            JavacTask task = (JavacTask) compiler.getTask(null, manager, null, List.of("-proc:none"), null,
                manager.getJavaFileObjects(SOURCE));
            Iterable<? extends CompilationUnitTree> units = task.parse();
            task.analyze();
            for (CompilationUnitTree unit : units) {
                if (unit.getTypeDecls().size() != 1) fail("more than one class beside each other");
                new Reader(Trees.instance(task)).scan(new TreePath(unit), null);
            }
        }
    }

    /** How many calls stand open at once, this one among them; 0 where a method comes back to itself. */
    private int depthOf(String method, Set<String> open) {
        if (!open.add(method)) {
            fail("recursion: " + open + ", " + method);
            return 0;
        }
        int deepest = 0;
        for (String called : calls.getOrDefault(method, Set.of())) deepest = Math.max(deepest, depthOf(called, open));
        open.remove(method);
        return deepest + 1;
    }

    private int depth() {
        int deepest = 0;
        for (String method : methods) {
            int depth = depthOf(method, new HashSet<>());
            if (depth > DEEPEST) fail(method + " goes " + depth + " deep");
            deepest = Math.max(deepest, depth);
        }
        return deepest;
    }

    private void used() {
        Set<String> called = new HashSet<>();
        for (Set<String> each : calls.values()) called.addAll(each);
        for (String method : methods) {
            if (!method.startsWith("VoteFiles.") && !called.contains(method)) fail(method + " is never called");
        }
    }

    public static void main(String[] args) throws IOException {
        LanguageTest test = new LanguageTest();
        test.read();
        int deepest = test.depth();
        test.used();
        if (deepest < 2) fail("nothing was read");
        System.out.println("LanguageTest: " + test.methods.size() + " methods, " + deepest + " deep, " + wrong + " wrong");
        if (wrong != 0) System.exit(1);
    }
}
