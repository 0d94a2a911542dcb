import com.sun.source.tree.AnnotationTree;
import com.sun.source.tree.AssertTree;
import com.sun.source.tree.BinaryTree;
import com.sun.source.tree.BlockTree;
import com.sun.source.tree.CatchTree;
import com.sun.source.tree.ClassTree;
import com.sun.source.tree.CompilationUnitTree;
import com.sun.source.tree.CompoundAssignmentTree;
import com.sun.source.tree.DoWhileLoopTree;
import com.sun.source.tree.ExpressionTree;
import com.sun.source.tree.ForLoopTree;
import com.sun.source.tree.InstanceOfTree;
import com.sun.source.tree.LambdaExpressionTree;
import com.sun.source.tree.LiteralTree;
import com.sun.source.tree.MemberReferenceTree;
import com.sun.source.tree.MethodInvocationTree;
import com.sun.source.tree.MethodTree;
import com.sun.source.tree.NewClassTree;
import com.sun.source.tree.SwitchTree;
import com.sun.source.tree.SynchronizedTree;
import com.sun.source.tree.ThrowTree;
import com.sun.source.tree.Tree;
import com.sun.source.tree.TryTree;
import com.sun.source.tree.TypeCastTree;
import com.sun.source.tree.VariableTree;
import com.sun.source.tree.WhileLoopTree;
import com.sun.source.util.JavacTask;
import com.sun.source.util.SourcePositions;
import com.sun.source.util.TreePath;
import com.sun.source.util.TreePathScanner;
import com.sun.source.util.Trees;
import java.nio.charset.StandardCharsets;
import java.nio.file.Path;
import java.util.ArrayList;
import java.util.HashSet;
import java.util.LinkedHashMap;
import java.util.LinkedHashSet;
import java.util.List;
import java.util.Map;
import java.util.Set;
import javax.lang.model.element.Element;
import javax.lang.model.element.ExecutableElement;
import javax.lang.model.element.Modifier;
import javax.lang.model.element.TypeElement;
import javax.lang.model.type.TypeKind;
import javax.lang.model.type.TypeMirror;
import javax.tools.JavaCompiler;
import javax.tools.StandardJavaFileManager;
import javax.tools.ToolProvider;

/** The rules of ../shared/LANGUAGE.md that the compiler's own view of the source can show, by their numbers. */
final class RulesTest {
    private static final Path SOURCE = Path.of("src/main/java/PatternLibrary.java");
    private static final int MOST_LEVELS = 8;
    private static final int MOST_LINES = 60;
    private static final int MOST_PARAMETERS = 7;
    private static final Set<String> IMPORTS = Set.of("java.util.Arrays", "java.util.ArrayList", "java.util.Iterator", "java.util.List",
        "java.util.NoSuchElementException");
    private static final Set<String> EXCEPTIONS = Set.of("IllegalStateException", "IllegalArgumentException", "IndexOutOfBoundsException",
        "ArithmeticException", "UnsupportedOperationException", "NoSuchElementException", "RuntimeException");
    private static final Set<String> TYPES = Set.of("int", "long", "short", "byte", "char", "boolean", "double", "float", "void", "int[]", "long[]",
        "short[]", "byte[]", "char[]", "boolean[]", "double[]", "float[]", "int[][]", "long[][]", "short[][]", "byte[][]", "char[][]",
        "java.lang.String", "java.lang.StringBuilder");
    private static final Set<String> CALLS = Set.of(
        "String.length()", "String.charAt(int)", "String.isEmpty()", "String.equals(java.lang.Object)", "String.indexOf(int)",
        "String.substring(int)", "String.substring(int,int)", "String.toCharArray()",
        "StringBuilder.append(char)", "StringBuilder.append(java.lang.String)", "StringBuilder.append(int)", "StringBuilder.charAt(int)",
        "StringBuilder.length()", "StringBuilder.setCharAt(int,char)", "StringBuilder.setLength(int)", "StringBuilder.deleteCharAt(int)",
        "StringBuilder.reverse()", "StringBuilder.toString()",
        "Math.abs(int)", "Math.abs(long)", "Math.max(int,int)", "Math.max(long,long)", "Math.min(int,int)", "Math.min(long,long)",
        "Math.floorDiv(int,int)", "Math.floorMod(int,int)", "Integer.bitCount(int)", "Integer.compare(int,int)",
        "System.arraycopy(java.lang.Object,int,java.lang.Object,int,int)",
        "Arrays.copyOf(int[],int)", "Arrays.copyOf(char[],int)", "Arrays.copyOfRange(int[],int,int)", "Arrays.copyOfRange(char[],int,int)",
        "Arrays.fill(int[],int)", "Arrays.fill(int[],int,int,int)");

    private RulesTest() {
    }

    public static void main(String[] args) throws Exception {
        JavaCompiler compiler = ToolProvider.getSystemJavaCompiler();
        try (StandardJavaFileManager files = compiler.getStandardFileManager(null, null, StandardCharsets.UTF_8)) {
            JavacTask task = (JavacTask) compiler.getTask(null, files, null, List.of("-proc:none"), null, files.getJavaFileObjects(SOURCE));
            CompilationUnitTree unit = task.parse().iterator().next();
            task.analyze();
            Reader reader = new Reader(unit, Trees.instance(task));
            reader.scan(unit, null);
            Check.same("one class outside (1)", unit.getTypeDecls().size(), 1);
            Check.same("it has no package (1)", unit.getPackageName(), null);
            unit.getImports().forEach(one -> reader.allow("import", IMPORTS, one.getQualifiedIdentifier().toString(), 4));
            levels(reader.calls);
            Check.same("something was read", reader.methods > 100 && reader.calls.size() > 100, true);
        }
        Check.finish("RulesTest");
    }

    /** No method reaches itself, and no chain of calls is too long. */
    private static void levels(Map<Element, Set<Element>> calls) {
        Map<Element, Integer> known = new LinkedHashMap<>();
        for (Element method : calls.keySet()) {
            int levels = levels(method, calls, known, new LinkedHashSet<>());
            Check.same(method + " goes at most eight deep (11)", levels <= MOST_LEVELS ? MOST_LEVELS : levels, MOST_LEVELS);
        }
    }

    private static int levels(Element method, Map<Element, Set<Element>> calls, Map<Element, Integer> known, Set<Element> open) {
        if (known.containsKey(method)) {
            return known.get(method);
        }
        if (!open.add(method)) {
            Check.same("a method that reaches itself (8)", open, "none");
            return 0;
        }
        int below = 0;
        for (Element called : calls.getOrDefault(method, Set.of())) {
            below = Math.max(below, levels(called, calls, known, open));
        }
        open.remove(method);
        known.put(method, below + 1);
        return below + 1;
    }

    private static final class Reader extends TreePathScanner<Void, Void> {
        private final CompilationUnitTree unit;
        private final Trees trees;
        private final Map<Element, Set<Element>> calls = new LinkedHashMap<>();
        private final List<MethodTree> open = new ArrayList<>();
        private final Set<String> ownTypes = new HashSet<>();
        private int methods = 0;

        Reader(CompilationUnitTree unit, Trees trees) {
            this.unit = unit;
            this.trees = trees;
            ownTypes(unit.getTypeDecls().get(0));
        }

        private void ownTypes(Tree tree) {
            ownTypes.add(((ClassTree) tree).getSimpleName().toString());
            ((ClassTree) tree).getMembers().stream().filter(member -> member instanceof ClassTree).forEach(this::ownTypes);
        }

        private void wrong(String what, int rule, Tree tree) {
            Check.same(what + " (" + rule + ")", "line " + line(tree, true) + ": " + tree, "none");
        }

        private void allow(String what, Set<String> allowed, String got, int rule) {
            Check.same(what + " " + got + " (" + rule + ")", allowed.contains(got), true);
        }

        private long line(Tree tree, boolean first) {
            SourcePositions positions = trees.getSourcePositions();
            long at = first ? positions.getStartPosition(unit, tree) : positions.getEndPosition(unit, tree);
            return unit.getLineMap().getLineNumber(at);
        }

        private TypeMirror type(Tree tree) {
            return trees.getTypeMirror(new TreePath(getCurrentPath(), tree));
        }

        private boolean isOwn(Element element) {
            for (Element at = element; at != null; at = at.getEnclosingElement()) {
                if (at instanceof TypeElement && at.getSimpleName().contentEquals("PatternLibrary")) {
                    return true;
                }
            }
            return false;
        }

        @Override
        public Void visitMethod(MethodTree tree, Void nothing) {
            methods++;
            String name = tree.getName().toString();
            Check.same(name + " has few parameters (11)", tree.getParameters().size() <= MOST_PARAMETERS, true);
            Check.same(name + " is short (11)", line(tree, false) - line(tree, true) < MOST_LINES, true);
            Check.same(name + " is no method of all objects (6)", Set.of("equals", "hashCode", "toString").contains(name), false);
            tree.getThrows().forEach(thrown -> allow("throws", EXCEPTIONS, thrown.toString(), 6));
            calls.computeIfAbsent(trees.getElement(getCurrentPath()), method -> new LinkedHashSet<>());
            open.add(tree);
            super.visitMethod(tree, nothing);
            open.remove(open.size() - 1);
            return null;
        }

        @Override
        public Void visitMethodInvocation(MethodInvocationTree tree, Void nothing) {
            ExecutableElement called = (ExecutableElement) trees.getElement(getCurrentPath());
            note(called, tree);
            return super.visitMethodInvocation(tree, nothing);
        }

        @Override
        public Void visitNewClass(NewClassTree tree, Void nothing) {
            String name = tree.getIdentifier().toString();
            boolean thrown = getCurrentPath().getParentPath().getLeaf() instanceof ThrowTree;
            if (thrown) {
                allow("throw new", EXCEPTIONS, name, 6);
                for (ExpressionTree argument : tree.getArguments()) {
                    Check.same(argument + " is a written text (6)", argument instanceof LiteralTree, true);
                }
            } else {
                Check.same("new " + name + " (4)", ownTypes.contains(name) || name.equals("StringBuilder"), true);
            }
            if (tree.getClassBody() != null) {
                wrong("a class without a name", 2, tree);
            }
            note((ExecutableElement) trees.getElement(getCurrentPath()), tree);
            return super.visitNewClass(tree, nothing);
        }

        private void note(ExecutableElement called, Tree tree) {
            boolean constructs = called.getSimpleName().contentEquals("<init>");
            if (!isOwn(called) && !constructs) {
                // A StringBuilder has some of its methods from a class above it.
                String owner = called.getEnclosingElement().getSimpleName().toString().replace("AbstractString", "String");
                allow("call of", CALLS, owner + "." + called, 4);
            }
            if (isOwn(called) && !open.isEmpty()) {
                Element from = trees.getElement(trees.getPath(unit, open.get(open.size() - 1)));
                calls.get(from).add(called);
            }
        }

        @Override
        public Void visitVariable(VariableTree tree, Void nothing) {
            String type = String.valueOf(type(tree.getType() == null ? tree : tree.getType()));
            String own = type.replace("PatternLibrary.", "").replace("[]", "");
            boolean caught = getCurrentPath().getParentPath().getLeaf() instanceof CatchTree;
            Check.same(tree.getName() + " is a " + type + " (3)", TYPES.contains(type) || ownTypes.contains(own) || caught, true);
            Set<Modifier> modifiers = tree.getModifiers().getFlags();
            if (modifiers.contains(Modifier.STATIC)) {
                Check.same(tree.getName() + " is final (5)", modifiers.contains(Modifier.FINAL), true);
                Set<String> constants = Set.of("int", "long", "boolean", "char", "java.lang.String", "int[]", "long[]", "char[]", "byte[]");
                allow("constant " + tree.getName() + " of the type", constants, type, 5);
            }
            return super.visitVariable(tree, nothing);
        }

        @Override
        public Void visitClass(ClassTree tree, Void nothing) {
            boolean nested = getCurrentPath().getParentPath().getLeaf() instanceof ClassTree;
            Check.same(tree.getSimpleName() + " stands in the class and is static (1)",
                !nested || tree.getModifiers().getFlags().contains(Modifier.STATIC), true);
            for (Tree member : tree.getMembers()) {
                if (member instanceof BlockTree) {
                    wrong("an initialiser block", 5, member);
                }
            }
            return super.visitClass(tree, nothing);
        }

        @Override
        public Void visitThrow(ThrowTree tree, Void nothing) {
            Check.same(tree + " throws a new one (6)", tree.getExpression() instanceof NewClassTree, true);
            Check.same(tree + " is in no constructor (6)", open.get(open.size() - 1).getReturnType() != null, true);
            return super.visitThrow(tree, nothing);
        }

        @Override
        public Void visitBinary(BinaryTree tree, Void nothing) {
            String left = String.valueOf(type(tree.getLeftOperand()));
            String right = String.valueOf(type(tree.getRightOperand()));
            boolean texts = left.equals("java.lang.String") || right.equals("java.lang.String");
            Check.same(tree + " is no sum or comparison of texts (6, 10)", texts, false);
            if (tree.getKind() == Tree.Kind.DIVIDE || tree.getKind() == Tree.Kind.REMAINDER) {
                divisor(tree, tree.getRightOperand());
            }
            return super.visitBinary(tree, nothing);
        }

        @Override
        public Void visitCompoundAssignment(CompoundAssignmentTree tree, Void nothing) {
            Check.same(tree + " joins no texts (10)", String.valueOf(type(tree.getVariable())).equals("java.lang.String"), false);
            if (tree.getKind() == Tree.Kind.DIVIDE_ASSIGNMENT || tree.getKind() == Tree.Kind.REMAINDER_ASSIGNMENT) {
                divisor(tree, tree.getExpression());
            }
            return super.visitCompoundAssignment(tree, nothing);
        }

        /** A divisor is a constant, or its method looks at it before. */
        private void divisor(Tree tree, ExpressionTree divisor) {
            String name = divisor.toString();
            String method = open.get(open.size() - 1).toString();
            boolean constant = name.matches("[1-9][0-9]*|[A-Z][A-Z_]+");
            Check.same(tree + " divides by what was looked at (7)", constant || method.matches("(?s).*if \\(" + name + " (== 0|<= 0).*"), true);
        }

        @Override
        public Void visitWhileLoop(WhileLoopTree tree, Void nothing) {
            bound(tree.getCondition());
            return super.visitWhileLoop(tree, nothing);
        }

        @Override
        public Void visitForLoop(ForLoopTree tree, Void nothing) {
            bound(tree.getCondition());
            return super.visitForLoop(tree, nothing);
        }

        @Override
        public Void visitDoWhileLoop(DoWhileLoopTree tree, Void nothing) {
            bound(tree.getCondition());
            return super.visitDoWhileLoop(tree, nothing);
        }

        private void bound(ExpressionTree condition) {
            Check.same("the condition " + condition + " of a loop has a bound (9)", String.valueOf(condition).matches(".*[<>].*"), true);
        }

        @Override
        public Void visitSwitch(SwitchTree tree, Void nothing) {
            String type = String.valueOf(type(tree.getExpression()));
            Check.same("switch " + tree.getExpression() + " is one on numbers (10)", Set.of("int", "char").contains(type), true);
            return super.visitSwitch(tree, nothing);
        }

        @Override
        public Void visitTypeCast(TypeCastTree tree, Void nothing) {
            TypeMirror type = type(tree.getType());
            Check.same(tree + " is a cast of numbers (6)", type.getKind().isPrimitive() && type.getKind() != TypeKind.BOOLEAN, true);
            return super.visitTypeCast(tree, nothing);
        }

        @Override
        public Void visitTry(TryTree tree, Void nothing) {
            wrong("a try, which the class does not need", 6, tree);
            return super.visitTry(tree, nothing);
        }

        @Override
        public Void visitInstanceOf(InstanceOfTree tree, Void nothing) {
            wrong("an instanceof, which the class does not need", 6, tree);
            return super.visitInstanceOf(tree, nothing);
        }

        @Override
        public Void visitLambdaExpression(LambdaExpressionTree tree, Void nothing) {
            wrong("a lambda", 2, tree);
            return super.visitLambdaExpression(tree, nothing);
        }

        @Override
        public Void visitMemberReference(MemberReferenceTree tree, Void nothing) {
            wrong("a method reference", 2, tree);
            return super.visitMemberReference(tree, nothing);
        }

        @Override
        public Void visitAssert(AssertTree tree, Void nothing) {
            wrong("an assert", 6, tree);
            return super.visitAssert(tree, nothing);
        }

        @Override
        public Void visitSynchronized(SynchronizedTree tree, Void nothing) {
            wrong("a synchronized", 6, tree);
            return super.visitSynchronized(tree, nothing);
        }

        @Override
        public Void visitAnnotation(AnnotationTree tree, Void nothing) {
            wrong("an annotation, which the class does not need", 4, tree);
            return super.visitAnnotation(tree, nothing);
        }

        @Override
        public Void visitLiteral(LiteralTree tree, Void nothing) {
            if (tree.getValue() instanceof String) {
                String text = (String) tree.getValue();
                Check.same("the signs of " + tree + " (4)", text.chars().allMatch(sign -> sign >= 1 && sign <= 127), true);
            }
            return super.visitLiteral(tree, nothing);
        }
    }
}
