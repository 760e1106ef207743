import com.sun.source.tree.ArrayAccessTree;
import com.sun.source.tree.AssertTree;
import com.sun.source.tree.BinaryTree;
import com.sun.source.tree.CatchTree;
import com.sun.source.tree.ClassTree;
import com.sun.source.tree.CompilationUnitTree;
import com.sun.source.tree.CompoundAssignmentTree;
import com.sun.source.tree.DoWhileLoopTree;
import com.sun.source.tree.EnhancedForLoopTree;
import com.sun.source.tree.ExpressionTree;
import com.sun.source.tree.ForLoopTree;
import com.sun.source.tree.IdentifierTree;
import com.sun.source.tree.InstanceOfTree;
import com.sun.source.tree.LambdaExpressionTree;
import com.sun.source.tree.LiteralTree;
import com.sun.source.tree.MemberReferenceTree;
import com.sun.source.tree.MemberSelectTree;
import com.sun.source.tree.MethodInvocationTree;
import com.sun.source.tree.MethodTree;
import com.sun.source.tree.NewArrayTree;
import com.sun.source.tree.NewClassTree;
import com.sun.source.tree.SynchronizedTree;
import com.sun.source.tree.ThrowTree;
import com.sun.source.tree.Tree;
import com.sun.source.tree.TryTree;
import com.sun.source.tree.TypeCastTree;
import com.sun.source.tree.VariableTree;
import com.sun.source.tree.WhileLoopTree;
import com.sun.source.util.JavacTask;
import com.sun.source.util.TreePath;
import com.sun.source.util.TreePathScanner;
import com.sun.source.util.Trees;
import java.io.IOException;
import java.nio.file.Path;
import java.util.LinkedHashMap;
import java.util.List;
import java.util.Map;
import java.util.Set;
import java.util.TreeMap;
import java.util.TreeSet;
import javax.lang.model.element.Element;
import javax.lang.model.element.ElementKind;
import javax.lang.model.element.ExecutableElement;
import javax.lang.model.element.Modifier;
import javax.lang.model.element.TypeElement;
import javax.lang.model.element.VariableElement;
import javax.lang.model.type.TypeKind;
import javax.lang.model.type.TypeMirror;
import javax.tools.JavaCompiler;
import javax.tools.StandardJavaFileManager;
import javax.tools.ToolProvider;

/**
 * The rules of LANGUAGE.md that can be seen from the compiler's tree of the class. Where the class needs less than a
 * rule leaves (no try, no cast but of numbers, no list), the less is asked for.
 */
public final class LanguageTests extends Check {
    private static final Path SOURCE = Path.of("src/main/java/Meshyard.java");
    private static final Set<String> LIBRARY = Set.of("java.lang.String.indexOf(int)", "java.lang.String.charAt(int)",
        "java.lang.Integer.bitCount(int)", "java.lang.Math.abs(int)", "java.lang.Math.max(int,int)");
    private static final Set<String> THROWN = Set.of("java.lang.IllegalStateException", "java.lang.IllegalArgumentException",
        "java.lang.IndexOutOfBoundsException", "java.lang.ArithmeticException", "java.lang.UnsupportedOperationException",
        "java.util.NoSuchElementException", "java.lang.RuntimeException");
    private static final Set<TypeKind> NUMBERS = Set.of(TypeKind.INT, TypeKind.LONG, TypeKind.SHORT, TypeKind.BYTE,
        TypeKind.CHAR, TypeKind.BOOLEAN, TypeKind.DOUBLE, TypeKind.FLOAT);
    private static final int MOST_LINES = 60;
    private static final int MOST_DEEP = 8;
    private static final int MOST_TAKEN = 7;
    private static final int MOST_CLASSES = 12;
    private static final int MOST_FIELDS = 20;

    public static void main(String[] args) throws IOException {
        JavaCompiler compiler = ToolProvider.getSystemJavaCompiler();
        try (StandardJavaFileManager files = compiler.getStandardFileManager(null, null, null)) {
            JavacTask task = (JavacTask) compiler.getTask(null, files, null, List.of("-proc:none"), null,
                files.getJavaFileObjects(SOURCE));
            CompilationUnitTree unit = task.parse().iterator().next();
            task.analyze();
            Reader reader = new Reader(Trees.instance(task), unit);
            reader.scan(unit, null);
            same("classes are some twelve", true, reader.classes <= MOST_CLASSES);
            theDepths(reader);
        }
        end("LanguageTests");
    }

    /** No method leads back to itself, and calls go at most eight deep. */
    private static void theDepths(Reader reader) {
        Map<String, Integer> depths = new TreeMap<>();
        for (String method : reader.calls.keySet()) {
            int depth = depthOf(method, reader.calls, depths, new TreeSet<>());
            isTrue(method + " goes " + depth + " deep", depth <= MOST_DEEP);
        }
        isTrue("methods that were looked at", depths.size() > 100);
    }

    private static int depthOf(String method, Map<String, TreeSet<String>> calls, Map<String, Integer> depths,
            TreeSet<String> open) {
        if (!open.add(method)) {
            isTrue(method + " leads back to itself", false);
            return 1000;
        }
        if (!depths.containsKey(method)) {
            int below = 0;
            for (String called : calls.getOrDefault(method, new TreeSet<>())) {
                below = Math.max(below, depthOf(called, calls, depths, open));
            }
            depths.put(method, below + 1);
        }
        open.remove(method);
        return depths.get(method);
    }

    private static final class Reader extends TreePathScanner<Void, Void> {
        final Trees trees;
        final CompilationUnitTree unit;
        final Map<String, TreeSet<String>> calls = new LinkedHashMap<>();
        String method = "";
        boolean isMaking;
        int loops;
        int classes;

        Reader(Trees trees, CompilationUnitTree unit) {
            this.trees = trees;
            this.unit = unit;
        }

        private Element element() {
            return trees.getElement(getCurrentPath());
        }

        private TypeMirror typeOf(Tree tree) {
            return trees.getTypeMirror(new TreePath(getCurrentPath(), tree));
        }

        private long line(long position) {
            return unit.getLineMap().getLineNumber(position);
        }

        private String at(Tree tree) {
            return "line " + line(trees.getSourcePositions().getStartPosition(unit, tree));
        }

        private void never(String what, Tree tree) {
            isTrue(at(tree) + ": " + what, false);
        }

        private static boolean isOwn(Element element) {
            return element != null && (element.toString().equals("Meshyard") || isOwn(element.getEnclosingElement()));
        }

        /** Numbers, texts, own classes, and rows of these with one dimension. */
        private void needType(TypeMirror type, Tree tree) {
            boolean isRow = type.getKind() == TypeKind.ARRAY;
            TypeMirror inner = isRow ? ((javax.lang.model.type.ArrayType) type).getComponentType() : type;
            String name = inner.toString();
            boolean isKnown = NUMBERS.contains(inner.getKind()) || name.startsWith("Meshyard");
            isTrue(at(tree) + ": the type " + type, isKnown || !isRow && name.equals("java.lang.String"));
        }

        @Override
        public Void visitClass(ClassTree tree, Void none) {
            TypeElement element = (TypeElement) element();
            classes++;
            boolean isInside = element.getNestingKind().isNested();
            isTrue(at(tree) + ": a class by its name", !element.getSimpleName().toString().isEmpty());
            isTrue(at(tree) + ": final", element.getModifiers().contains(Modifier.FINAL));
            isTrue(at(tree) + ": static inside", !isInside || element.getModifiers().contains(Modifier.STATIC));
            isTrue(at(tree) + ": not public inside", !isInside || !element.getModifiers().contains(Modifier.PUBLIC));
            isTrue(at(tree) + ": extends nothing", tree.getExtendsClause() == null && tree.getImplementsClause().isEmpty());
            int fields = 0;
            for (Tree member : tree.getMembers()) {
                isTrue(at(member) + ": no block of a class", member.getKind() != Tree.Kind.BLOCK);
                boolean isField = member instanceof VariableTree v && !v.getModifiers().getFlags().contains(Modifier.STATIC);
                fields += isField ? 1 : 0;
            }
            isTrue(at(tree) + ": " + fields + " fields", fields <= MOST_FIELDS);
            return super.visitClass(tree, none);
        }

        @Override
        public Void visitVariable(VariableTree tree, Void none) {
            VariableElement element = (VariableElement) element();
            needType(element.asType(), tree);
            if (element.getKind() == ElementKind.FIELD && element.getModifiers().contains(Modifier.STATIC)) {
                isTrue(at(tree) + ": a constant", element.getConstantValue() != null);
            }
            if (element.getKind() == ElementKind.FIELD && element.getEnclosingElement().toString().equals("Meshyard")) {
                isTrue(at(tree) + ": private", element.getModifiers().contains(Modifier.PRIVATE));
            }
            boolean wasMaking = isMaking;
            isMaking = isMaking || element.getKind() == ElementKind.FIELD;
            super.visitVariable(tree, none);
            isMaking = wasMaking;
            return null;
        }

        @Override
        public Void visitMethod(MethodTree tree, Void none) {
            ExecutableElement element = (ExecutableElement) element();
            long lines = line(trees.getSourcePositions().getEndPosition(unit, tree))
                - line(trees.getSourcePositions().getStartPosition(unit, tree)) + 1;
            isTrue(at(tree) + ": " + lines + " lines", lines <= MOST_LINES);
            isTrue(at(tree) + ": takes " + tree.getParameters().size(), tree.getParameters().size() <= MOST_TAKEN);
            isTrue(at(tree) + ": not native, strict or synchronized", tree.getBody() != null
                && !element.getModifiers().contains(Modifier.SYNCHRONIZED));
            if (element.getReturnType().getKind() != TypeKind.VOID) {
                needType(element.getReturnType(), tree);
            }
            method = nameOf(element);
            calls.put(method, new TreeSet<>());
            isMaking = element.getKind() == ElementKind.CONSTRUCTOR;
            super.visitMethod(tree, none);
            isMaking = false;
            method = "";
            return null;
        }

        private static String nameOf(ExecutableElement element) {
            return element.getEnclosingElement() + "." + element;
        }

        @Override
        public Void visitMethodInvocation(MethodInvocationTree tree, Void none) {
            ExecutableElement called = (ExecutableElement) element();
            boolean isOfObject = called.getKind() == ElementKind.CONSTRUCTOR;
            if (isOwn(called)) {
                calls.computeIfAbsent(method, m -> new TreeSet<>()).add(nameOf(called));
            } else if (!isOfObject) {
                isTrue(at(tree) + ": the library's " + nameOf(called), LIBRARY.contains(nameOf(called)));
            }
            return super.visitMethodInvocation(tree, none);
        }

        /** Objects are made as a yard is made; a call makes nothing but what it throws. */
        @Override
        public Void visitNewClass(NewClassTree tree, Void none) {
            String name = typeOf(tree.getIdentifier()).toString();
            boolean isThrown = getCurrentPath().getParentPath().getLeaf() instanceof ThrowTree;
            isTrue(at(tree) + ": makes " + name, isThrown || isMaking && name.startsWith("Meshyard."));
            isTrue(at(tree) + ": no class without a name", tree.getClassBody() == null);
            if (isMaking && !isThrown) {
                calls.computeIfAbsent(method, m -> new TreeSet<>()).add(nameOf((ExecutableElement) element()));
            }
            return super.visitNewClass(tree, none);
        }

        @Override
        public Void visitNewArray(NewArrayTree tree, Void none) {
            isTrue(at(tree) + ": a row is made as a yard is made, and not in a loop", isMaking && loops == 0);
            for (ExpressionTree length : tree.getDimensions()) {
                isTrue(at(tree) + ": its length is written", isPositive(length));
            }
            isTrue(at(tree) + ": one dimension", tree.getDimensions().size() == 1);
            return super.visitNewArray(tree, none);
        }

        /** A number above 0, a constant with one, or a sum or product of such. */
        private boolean isPositive(Tree tree) {
            if (tree instanceof BinaryTree two) {
                boolean isOfBoth = two.getKind() == Tree.Kind.MULTIPLY || two.getKind() == Tree.Kind.PLUS;
                return isOfBoth && isPositive(two.getLeftOperand()) && isPositive(two.getRightOperand());
            }
            Object value = null;
            if (tree instanceof LiteralTree literal) {
                value = literal.getValue();
            } else if (tree instanceof IdentifierTree name
                    && trees.getElement(new TreePath(getCurrentPath(), name)) instanceof VariableElement constant) {
                value = constant.getConstantValue();
            }
            return value instanceof Integer number && number > 0;
        }

        @Override
        public Void visitThrow(ThrowTree tree, Void none) {
            isTrue(at(tree) + ": no throw in a constructor", !isMaking);
            isTrue(at(tree) + ": throw new", tree.getExpression() instanceof NewClassTree);
            if (tree.getExpression() instanceof NewClassTree made) {
                isTrue(at(tree) + ": an exception of the rules", THROWN.contains(typeOf(made).toString()));
                isTrue(at(tree) + ": with a written text", made.getArguments().size() == 1
                    && made.getArguments().get(0) instanceof LiteralTree);
            }
            return super.visitThrow(tree, none);
        }

        @Override
        public Void visitBinary(BinaryTree tree, Void none) {
            TypeMirror left = typeOf(tree.getLeftOperand());
            TypeMirror right = typeOf(tree.getRightOperand());
            boolean isDivision = tree.getKind() == Tree.Kind.DIVIDE || tree.getKind() == Tree.Kind.REMAINDER;
            boolean isOfTexts = (left + " " + right).contains("java.lang.");
            isTrue(at(tree) + ": neither texts joined nor held together", !isOfTexts);
            if (isDivision && !Set.of(TypeKind.FLOAT, TypeKind.DOUBLE).contains(left.getKind())) {
                isTrue(at(tree) + ": divided by a constant that is not 0", isPositive(tree.getRightOperand()));
            }
            return super.visitBinary(tree, none);
        }

        @Override
        public Void visitCompoundAssignment(CompoundAssignmentTree tree, Void none) {
            boolean isDivision = tree.getKind() == Tree.Kind.DIVIDE_ASSIGNMENT || tree.getKind() == Tree.Kind.REMAINDER_ASSIGNMENT;
            isTrue(at(tree) + ": no division while setting", !isDivision);
            needType(typeOf(tree.getVariable()), tree);
            return super.visitCompoundAssignment(tree, none);
        }

        @Override
        public Void visitTypeCast(TypeCastTree tree, Void none) {
            isTrue(at(tree) + ": a cast of numbers", typeOf(tree.getType()).getKind().isPrimitive());
            return super.visitTypeCast(tree, none);
        }

        @Override
        public Void visitArrayAccess(ArrayAccessTree tree, Void none) {
            isTrue(at(tree) + ": a row by an int", typeOf(tree.getIndex()).getKind() == TypeKind.INT);
            return super.visitArrayAccess(tree, none);
        }

        @Override
        public Void visitForLoop(ForLoopTree tree, Void none) {
            isTrue(at(tree) + ": begins, is bounded and steps", tree.getInitializer().size() == 1
                && tree.getCondition() instanceof BinaryTree && tree.getUpdate().size() == 1);
            return inLoop(() -> super.visitForLoop(tree, none));
        }

        @Override
        public Void visitWhileLoop(WhileLoopTree tree, Void none) {
            isTrue(at(tree) + ": a counter against a bound", tree.getCondition().toString().matches("\\(\\w+ < [\\w.]+\\)"));
            return inLoop(() -> super.visitWhileLoop(tree, none));
        }

        private Void inLoop(Runnable body) {
            loops++;
            body.run();
            loops--;
            return null;
        }

        @Override
        public Void visitMemberSelect(MemberSelectTree tree, Void none) {
            boolean isThis = tree.getIdentifier().contentEquals("class") || tree.getIdentifier().contentEquals("this");
            isTrue(at(tree) + ": no class as a value", !isThis);
            return super.visitMemberSelect(tree, none);
        }

        @Override
        public Void visitIdentifier(IdentifierTree tree, Void none) {
            boolean isThis = tree.getName().contentEquals("this");
            boolean isHeld = getCurrentPath().getParentPath().getLeaf() instanceof MemberSelectTree;
            isTrue(at(tree) + ": hands itself out", !isThis || isHeld);
            return super.visitIdentifier(tree, none);
        }

        @Override
        public Void visitEnhancedForLoop(EnhancedForLoopTree tree, Void none) {
            never("a for over a row", tree);
            return null;
        }

        @Override
        public Void visitDoWhileLoop(DoWhileLoopTree tree, Void none) {
            never("a do", tree);
            return null;
        }

        @Override
        public Void visitTry(TryTree tree, Void none) {
            never("a try", tree);
            return null;
        }

        @Override
        public Void visitCatch(CatchTree tree, Void none) {
            never("a catch", tree);
            return null;
        }

        @Override
        public Void visitLambdaExpression(LambdaExpressionTree tree, Void none) {
            never("a lambda", tree);
            return null;
        }

        @Override
        public Void visitMemberReference(MemberReferenceTree tree, Void none) {
            never("a method's reference", tree);
            return null;
        }

        @Override
        public Void visitInstanceOf(InstanceOfTree tree, Void none) {
            never("an instanceof", tree);
            return null;
        }

        @Override
        public Void visitSynchronized(SynchronizedTree tree, Void none) {
            never("a synchronized", tree);
            return null;
        }

        @Override
        public Void visitAssert(AssertTree tree, Void none) {
            never("an assert", tree);
            return null;
        }
    }
}
