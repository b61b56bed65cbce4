import com.sun.source.tree.ArrayAccessTree;
import com.sun.source.tree.AssertTree;
import com.sun.source.tree.BinaryTree;
import com.sun.source.tree.CaseTree;
import com.sun.source.tree.ClassTree;
import com.sun.source.tree.CompilationUnitTree;
import com.sun.source.tree.CompoundAssignmentTree;
import com.sun.source.tree.DoWhileLoopTree;
import com.sun.source.tree.EnhancedForLoopTree;
import com.sun.source.tree.ExpressionTree;
import com.sun.source.tree.ForLoopTree;
import com.sun.source.tree.IdentifierTree;
import com.sun.source.tree.InstanceOfTree;
import com.sun.source.tree.LambdaExpressionTree;
import com.sun.source.tree.LiteralTree;
import com.sun.source.tree.MemberReferenceTree;
import com.sun.source.tree.MemberSelectTree;
import com.sun.source.tree.MethodInvocationTree;
import com.sun.source.tree.MethodTree;
import com.sun.source.tree.NewArrayTree;
import com.sun.source.tree.NewClassTree;
import com.sun.source.tree.SynchronizedTree;
import com.sun.source.tree.ThrowTree;
import com.sun.source.tree.Tree;
import com.sun.source.tree.TryTree;
import com.sun.source.tree.TypeCastTree;
import com.sun.source.tree.VariableTree;
import com.sun.source.tree.WhileLoopTree;
import com.sun.source.util.JavacTask;
import com.sun.source.util.TreePath;
import com.sun.source.util.TreePathScanner;
import com.sun.source.util.Trees;
import java.io.File;
import java.io.IOException;
import java.lang.reflect.Array;
import java.lang.reflect.Field;
import java.lang.reflect.Modifier;
import java.nio.file.Files;
import java.nio.file.Path;
import java.util.ArrayList;
import java.util.IdentityHashMap;
import java.util.List;
import java.util.Map;
import java.util.Set;
import java.util.TreeMap;
import java.util.TreeSet;
import javax.lang.model.element.Element;
import javax.lang.model.element.ElementKind;
import javax.lang.model.element.ExecutableElement;
import javax.lang.model.element.VariableElement;
import javax.lang.model.type.TypeKind;
import javax.lang.model.type.TypeMirror;
import javax.tools.JavaCompiler;
import javax.tools.StandardJavaFileManager;
import javax.tools.ToolProvider;

/** The source keeps to LANGUAGE.md, as far as its tree can tell; the checks are named by its rules. */
public final class LanguageTest {
    private static final Check check = new Check("LanguageTest");
    private static final Set<String> TYPES = Set.of("int", "long", "boolean", "double", "void",
            "int[]", "LyingScale", "LyingScale.State", "LyingScale.State[]", "LyingScale.Weighings",
            "LyingScale.History", "LyingScale.Orders");
    private static final Set<String> LIBRARY = Set.of("java.lang.System.arraycopy",
            "java.lang.Math.min", "java.lang.Math.max", "java.lang.Integer.bitCount");
    private static final Set<String> THROWN = Set.of("IllegalArgumentException",
            "IllegalStateException", "IndexOutOfBoundsException");
    // Each of them looks at the index first, or counts it against the length of the row.
    private static final Set<String> LOOK_AT_ROWS = Set.of("LyingScale.at", "LyingScale.put",
            "LyingScale.History.<init>", "LyingScale.History.stateAt",
            "LyingScale.History.dropOldest");
    // A counter that starts with 1, and the cases, which are 5 at least.
    private static final Set<String> DIVISORS = Set.of("i", "(double)now.cases()");

    private static String source;
    private static Trees trees;
    private static CompilationUnitTree unit;

    private LanguageTest() {
    }

    public static void main(String[] args) throws IOException, ReflectiveOperationException {
        if (args.length < 2) {
            System.out.println("usage: LanguageTest DOC.md LyingScale.java");
            System.exit(1);
        }
        source = Files.readString(Path.of(args[1]));
        parse(new File(args[1]));
        check.begin("rule 1");
        check.same("a package", true, unit.getPackage() == null);
        check.same("classes of the file", 1, unit.getTypeDecls().size());
        check.begin("rule 4");
        check.same("imports", 0, unit.getImports().size());
        check.same("signs are 1 to 127", true, source.chars().allMatch(c -> c > 0 && c < 128));
        Look look = new Look();
        look.scan(unit, null);
        look.close();
        room();
        check.close();
    }

    private static void parse(File file) throws IOException {
        JavaCompiler compiler = ToolProvider.getSystemJavaCompiler();
        StandardJavaFileManager files = compiler.getStandardFileManager(null, null, null);
        JavacTask task = (JavacTask) compiler.getTask(null, files, null, null, null,
                files.getJavaFileObjects(file));
        unit = task.parse().iterator().next();
        task.analyze();
        trees = Trees.instance(task);
    }

    /** What one object keeps: rule 12, and the room that all calls of a run live in. */
    private static void room() throws ReflectiveOperationException {
        check.begin("rule 12");
        Map<Object, Integer> seen = new IdentityHashMap<>();
        count(new LyingScale(), seen);
        int elements = seen.values().stream().mapToInt(n -> n).sum();
        check.same(seen.size() + " objects are few", true, seen.size() <= 80);
        check.same(elements + " fields and elements are few", true, elements <= 2000);
    }

    private static void count(Object object, Map<Object, Integer> seen)
            throws ReflectiveOperationException {
        if (object == null || seen.containsKey(object)) {
            return;
        }
        if (object.getClass().isArray()) {
            int length = Array.getLength(object);
            seen.put(object, length);
            for (int i = 0; !object.getClass().getComponentType().isPrimitive() && i < length; i++) {
                count(Array.get(object, i), seen);
            }
            return;
        }
        List<Field> fields = new ArrayList<>();
        for (Field field : object.getClass().getDeclaredFields()) {
            if (!Modifier.isStatic(field.getModifiers())) {
                fields.add(field);
            }
        }
        seen.put(object, fields.size());
        for (Field field : fields) {
            if (!field.getType().isPrimitive()) {
                field.setAccessible(true);
                count(field.get(object), seen);
            }
        }
    }

    /** Goes through the tree of the source once. */
    private static final class Look extends TreePathScanner<Void, Void> {
        private final Map<String, Set<String>> calls = new TreeMap<>();
        private final Map<String, Integer> fields = new TreeMap<>();
        private final Set<String> publicNames = new TreeSet<>();
        private final List<String> otherNames = new ArrayList<>();
        private String method = "";

        private void rule(int rule, String what, boolean holds) {
            check.begin("rule " + rule);
            Tree leaf = getCurrentPath() == null ? unit : getCurrentPath().getLeaf();
            long start = trees.getSourcePositions().getStartPosition(unit, leaf);
            check.same("line " + unit.getLineMap().getLineNumber(Math.max(start, 0)) + ": " + what,
                    true, holds);
        }

        private Element element() {
            return trees.getElement(getCurrentPath());
        }

        private String typeOf(Tree tree) {
            TypeMirror type = trees.getTypeMirror(new TreePath(getCurrentPath(), tree));
            return type == null ? "" : type.toString();
        }

        private static String nameOf(Element element) {
            return element.getEnclosingElement() + "." + element.getSimpleName();
        }

        @Override
        public Void visitClass(ClassTree tree, Void none) {
            Element own = element();
            boolean isInside = own.getEnclosingElement().getKind() == ElementKind.CLASS;
            Set<javax.lang.model.element.Modifier> kind = own.getModifiers();
            rule(2, "a class inside is static and not public", !isInside
                    || kind.contains(javax.lang.model.element.Modifier.STATIC)
                    && !kind.contains(javax.lang.model.element.Modifier.PUBLIC)
                    && !kind.contains(javax.lang.model.element.Modifier.PROTECTED));
            rule(2, "no class in a method", isInside || tree.getSimpleName().contentEquals(
                    "LyingScale"));
            rule(2, "no class above it", tree.getExtendsClause() == null);
            fields.put(own.toString(), 0);
            return super.visitClass(tree, none);
        }

        @Override
        public Void visitMethod(MethodTree tree, Void none) {
            ExecutableElement own = (ExecutableElement) element();
            String name = tree.getName().toString();
            method = nameOf(own);
            calls.put(method, new TreeSet<>());
            boolean isPublic = own.getModifiers().contains(
                    javax.lang.model.element.Modifier.PUBLIC);
            if (isPublic && !name.equals("<init>")) {
                publicNames.add(name);
            } else {
                otherNames.add(name);
            }
            if (tree.getReturnType() != null) {
                rule(3, "type " + own.getReturnType(), TYPES.contains(own.getReturnType().toString()));
            }
            rule(11, method + " takes at most seven", tree.getParameters().size() <= 7);
            rule(11, method + " is short", lines(tree) <= 60);
            rule(6, "no method of Object", !Set.of("equals", "hashCode", "toString").contains(name));
            rule(6, "no synchronized", !own.getModifiers().contains(
                    javax.lang.model.element.Modifier.SYNCHRONIZED));
            return super.visitMethod(tree, none);
        }

        private long lines(Tree tree) {
            long start = trees.getSourcePositions().getStartPosition(unit, tree);
            long end = trees.getSourcePositions().getEndPosition(unit, tree);
            return unit.getLineMap().getLineNumber(end) - unit.getLineMap().getLineNumber(start) + 1;
        }

        @Override
        public Void visitVariable(VariableTree tree, Void none) {
            VariableElement own = (VariableElement) element();
            rule(3, "type " + own.asType(), TYPES.contains(own.asType().toString()));
            if (own.getKind() == ElementKind.FIELD) {
                if (own.getModifiers().contains(javax.lang.model.element.Modifier.STATIC)) {
                    rule(5, own + " is a constant", own.getConstantValue() != null);
                } else {
                    fields.merge(own.getEnclosingElement().toString(), 1, Integer::sum);
                }
            }
            return super.visitVariable(tree, none);
        }

        @Override
        public Void visitMethodInvocation(MethodInvocationTree tree, Void none) {
            Element called = element();
            String name = nameOf(called);
            boolean isOwn = name.startsWith("LyingScale");
            // An empty constructor calls the one of Object, unwritten.
            if (!name.endsWith(".<init>")) {
                rule(4, name + " is let", isOwn || LIBRARY.contains(name));
            }
            if (isOwn) {
                calls.get(method).add(name);
            }
            return super.visitMethodInvocation(tree, none);
        }

        @Override
        public Void visitNewClass(NewClassTree tree, Void none) {
            String made = tree.getIdentifier().toString();
            boolean isThrown = getCurrentPath().getParentPath().getLeaf() instanceof ThrowTree;
            rule(2, "no class without a name", tree.getClassBody() == null);
            rule(12, made + " is made in a constructor, or thrown",
                    isThrown || method.endsWith(".<init>"));
            rule(4, made + " is an own class, or thrown",
                    isThrown || TYPES.contains("LyingScale." + made));
            if (!isThrown) {
                calls.get(method).add("LyingScale." + made + ".<init>");
            }
            return super.visitNewClass(tree, none);
        }

        @Override
        public Void visitNewArray(NewArrayTree tree, Void none) {
            rule(12, "a row is made in a constructor", method.endsWith(".<init>"));
            rule(3, "a row has one dimension", tree.getDimensions().size() == 1);
            for (ExpressionTree length : tree.getDimensions()) {
                boolean isConstant = length.toString().startsWith("MOST_");
                rule(7, "the length " + length + " is not negative",
                        isConstant || length.toString().equals("room"));
            }
            return super.visitNewArray(tree, none);
        }

        @Override
        public Void visitThrow(ThrowTree tree, Void none) {
            rule(6, "a new exception is thrown", tree.getExpression() instanceof NewClassTree);
            if (tree.getExpression() instanceof NewClassTree made) {
                rule(6, made + " is let", THROWN.contains(made.getIdentifier().toString()));
                rule(6, made + " has a written text", made.getArguments().size() == 1
                        && made.getArguments().get(0) instanceof LiteralTree);
            }
            rule(6, "no throw in a constructor", !method.endsWith(".<init>"));
            return super.visitThrow(tree, none);
        }

        @Override
        public Void visitArrayAccess(ArrayAccessTree tree, Void none) {
            rule(7, method + " looks at the index of " + tree, LOOK_AT_ROWS.contains(method));
            return super.visitArrayAccess(tree, none);
        }

        @Override
        public Void visitBinary(BinaryTree tree, Void none) {
            boolean divides = tree.getKind() == Tree.Kind.DIVIDE
                    || tree.getKind() == Tree.Kind.REMAINDER;
            String divisor = tree.getRightOperand().toString().replace(" ", "");
            rule(7, "the divisor " + divisor, !divides || isDivisor(tree.getRightOperand())
                    || DIVISORS.contains(divisor));
            rule(10, "no text is joined by +", !typeOf(tree).equals("java.lang.String"));
            return super.visitBinary(tree, none);
        }

        @Override
        public Void visitCompoundAssignment(CompoundAssignmentTree tree, Void none) {
            boolean divides = tree.getKind() == Tree.Kind.DIVIDE_ASSIGNMENT
                    || tree.getKind() == Tree.Kind.REMAINDER_ASSIGNMENT;
            rule(7, "the divisor " + tree.getExpression(),
                    !divides || isDivisor(tree.getExpression()));
            return super.visitCompoundAssignment(tree, none);
        }

        private Object constantOf(ExpressionTree tree) {
            if (tree instanceof LiteralTree literal) {
                return literal.getValue();
            }
            Element named = trees.getElement(new TreePath(getCurrentPath(), tree));
            return named instanceof VariableElement constant ? constant.getConstantValue() : null;
        }

        private boolean isDivisor(ExpressionTree tree) {
            Object constant = constantOf(tree);
            return constant != null && !constant.equals(0);
        }

        @Override
        public Void visitTypeCast(TypeCastTree tree, Void none) {
            TypeMirror type = trees.getTypeMirror(new TreePath(getCurrentPath(), tree.getType()));
            rule(7, "a cast of numbers only", type.getKind() == TypeKind.DOUBLE);
            return super.visitTypeCast(tree, none);
        }

        @Override
        public Void visitForLoop(ForLoopTree tree, Void none) {
            rule(9, "a counter against a bound", tree.getInitializer().size() == 1
                    && tree.getCondition() instanceof BinaryTree bound
                    && (bound.getKind() == Tree.Kind.LESS_THAN
                            || bound.getKind() == Tree.Kind.LESS_THAN_EQUAL)
                    && bound.getLeftOperand() instanceof IdentifierTree counter
                    && tree.getUpdate().toString().equals(counter + "++;"));
            return super.visitForLoop(tree, none);
        }

        @Override
        public Void visitCase(CaseTree tree, Void none) {
            for (ExpressionTree label : tree.getExpressions()) {
                rule(6, "a case is a number", constantOf(label) != null);
            }
            return super.visitCase(tree, none);
        }

        @Override
        public Void visitMemberSelect(MemberSelectTree tree, Void none) {
            rule(3, "no name of a package", !tree.toString().startsWith("java"));
            return super.visitMemberSelect(tree, none);
        }

        @Override
        public Void visitWhileLoop(WhileLoopTree tree, Void none) {
            return never(9, "no while");
        }

        @Override
        public Void visitDoWhileLoop(DoWhileLoopTree tree, Void none) {
            return never(9, "no do");
        }

        @Override
        public Void visitEnhancedForLoop(EnhancedForLoopTree tree, Void none) {
            return never(12, "no for over a list");
        }

        @Override
        public Void visitLambdaExpression(LambdaExpressionTree tree, Void none) {
            return never(2, "no lambda");
        }

        @Override
        public Void visitMemberReference(MemberReferenceTree tree, Void none) {
            return never(2, "no method reference");
        }

        @Override
        public Void visitTry(TryTree tree, Void none) {
            return never(6, "no try");
        }

        @Override
        public Void visitAssert(AssertTree tree, Void none) {
            return never(6, "no assert");
        }

        @Override
        public Void visitSynchronized(SynchronizedTree tree, Void none) {
            return never(6, "no synchronized");
        }

        @Override
        public Void visitInstanceOf(InstanceOfTree tree, Void none) {
            return never(6, "no instanceof");
        }

        private Void never(int rule, String what) {
            rule(rule, what, false);
            return null;
        }

        void close() {
            for (String name : otherNames) {
                rule(1, name + " bears no name of a public method", !publicNames.contains(name));
            }
            rule(1, "28 methods are public", publicNames.size() == 28);
            rule(11, "at most twelve classes", fields.size() <= 12);
            fields.forEach((name, count) -> rule(11, name + " has few fields", count <= 20));
            for (String name : calls.keySet()) {
                int depth = depth(name, 1);
                rule(8, name + " does not call itself", depth < 1000);
                rule(11, name + " calls at most eight deep, not " + depth, depth <= 8);
            }
        }

        private int depth(String name, int open) {
            int deepest = 1;
            for (String next : calls.getOrDefault(name, Set.of())) {
                deepest = Math.max(deepest, open > 50 ? 1000 : 1 + depth(next, open + 1));
            }
            return deepest;
        }
    }
}
