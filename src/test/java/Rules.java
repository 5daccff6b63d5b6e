import com.sun.source.tree.AssertTree;
import com.sun.source.tree.BinaryTree;
import com.sun.source.tree.ClassTree;
import com.sun.source.tree.CompilationUnitTree;
import com.sun.source.tree.DoWhileLoopTree;
import com.sun.source.tree.ForLoopTree;
import com.sun.source.tree.InstanceOfTree;
import com.sun.source.tree.LambdaExpressionTree;
import com.sun.source.tree.MemberReferenceTree;
import com.sun.source.tree.MethodInvocationTree;
import com.sun.source.tree.MethodTree;
import com.sun.source.tree.NewArrayTree;
import com.sun.source.tree.NewClassTree;
import com.sun.source.tree.SynchronizedTree;
import com.sun.source.tree.ThrowTree;
import com.sun.source.tree.Tree;
import com.sun.source.tree.TryTree;
import com.sun.source.tree.TypeCastTree;
import com.sun.source.tree.VariableTree;
import com.sun.source.tree.WhileLoopTree;
import com.sun.source.util.TreePathScanner;
import com.sun.source.util.Trees;
import java.util.Map;
import java.util.Set;
import java.util.TreeMap;
import java.util.TreeSet;
import javax.lang.model.element.Element;
import javax.lang.model.element.ExecutableElement;
import javax.lang.model.element.Modifier;
import javax.lang.model.type.ArrayType;
import javax.lang.model.type.TypeKind;
import javax.lang.model.type.TypeMirror;

/** Goes through a source and writes down each place that breaks a rule of LANGUAGE.md, and who calls whom. */
final class Rules extends TreePathScanner<Void, Void> {
    private static final int MOST_PARAMETERS = 7;
    private static final int MOST_LINES = 60;
    private static final int MOST_CLASSES = 12;
    private static final int MOST_FIELDS = 20;
    /** Of what LANGUAGE.md lists, as much as the class has a use for. */
    private static final Set<String> LIBRARY = Set.of("Math.min", "Math.max", "Arrays.fill");

    final Set<String> broken = new TreeSet<>();
    final Map<String, Set<String>> callees = new TreeMap<>();
    final Set<String> roots = new TreeSet<>();
    private final Trees trees;
    private final CompilationUnitTree unit;
    private final String face;
    private int classes = 0;
    private String caller = "";

    Rules(Trees trees, CompilationUnitTree unit, String face) {
        this.trees = trees;
        this.unit = unit;
        this.face = face;
    }

    private void breaks(int rule, Tree tree, String why) {
        long line = unit.getLineMap().getLineNumber(start(tree));
        broken.add("rule " + rule + ", line " + line + ": " + why);
    }

    private long start(Tree tree) {
        return trees.getSourcePositions().getStartPosition(unit, tree);
    }

    private Element element() {
        return trees.getElement(getCurrentPath());
    }

    private boolean isOwn(Element element) {
        Element outermost = element;
        while (outermost.getEnclosingElement() != null && !outermost.getEnclosingElement().getKind().name().equals("PACKAGE")) {
            outermost = outermost.getEnclosingElement();
        }
        return outermost.getSimpleName().contentEquals(face);
    }

    @Override
    public Void visitClass(ClassTree tree, Void none) {
        Element element = element();
        classes++;
        if (classes > MOST_CLASSES) {
            breaks(11, tree, "too many classes");
        }
        boolean isFace = element.getSimpleName().contentEquals(face);
        Set<Modifier> modifiers = tree.getModifiers().getFlags();
        boolean isHidden = !modifiers.contains(Modifier.PUBLIC) && !modifiers.contains(Modifier.PROTECTED);
        if (!isFace && !(isHidden && modifiers.contains(Modifier.STATIC))) {
            breaks(2, tree, "a class that is not static, or not hidden");
        }
        int fields = 0;
        for (Tree member : tree.getMembers()) {
            if (member.getKind() == Tree.Kind.BLOCK) {
                breaks(5, member, "an initialiser block");
            }
            if (member instanceof VariableTree field && !field.getModifiers().getFlags().contains(Modifier.STATIC)) {
                fields++;
            }
        }
        if (fields > MOST_FIELDS) {
            breaks(11, tree, "too many fields");
        }
        return super.visitClass(tree, none);
    }

    @Override
    public Void visitMethod(MethodTree tree, Void none) {
        ExecutableElement method = (ExecutableElement) element();
        String outer = caller;
        caller = named(method);
        callees.computeIfAbsent(caller, unused -> new TreeSet<>());
        if (method.getModifiers().contains(Modifier.PUBLIC)) {
            roots.add(caller);
        }
        if (tree.getParameters().size() > MOST_PARAMETERS) {
            breaks(11, tree, "too many parameters");
        }
        if (!tree.getThrows().isEmpty()) {
            breaks(6, tree, "throws");
        }
        long end = trees.getSourcePositions().getEndPosition(unit, tree);
        if (unit.getLineMap().getLineNumber(end) - unit.getLineMap().getLineNumber(start(tree)) >= MOST_LINES) {
            breaks(11, tree, "a long method");
        }
        super.visitMethod(tree, none);
        caller = outer;
        return null;
    }

    private static String named(ExecutableElement method) {
        return method.getEnclosingElement() + "." + method;
    }

    @Override
    public Void visitVariable(VariableTree tree, Void none) {
        Element element = element();
        TypeMirror type = element.asType();
        if (!isAllowed(type)) {
            breaks(3, tree, "a variable of " + type);
        }
        if (element.getModifiers().contains(Modifier.STATIC)) {
            lookAtStatic(tree, element, type);
        }
        return super.visitVariable(tree, none);
    }

    private boolean isAllowed(TypeMirror type) {
        if (type instanceof ArrayType array) {
            TypeMirror inside = array.getComponentType();
            return inside.getKind().isPrimitive() || inside.getKind() == TypeKind.DECLARED && isAllowed(inside);
        }
        return type.getKind().isPrimitive() || type.toString().startsWith(face);
    }

    private void lookAtStatic(VariableTree tree, Element element, TypeMirror type) {
        if (!element.getModifiers().contains(Modifier.FINAL)) {
            breaks(5, tree, "a static field that is not final");
        }
        boolean isWrittenOut = tree.getInitializer() instanceof NewArrayTree row && row.getInitializers() != null;
        if (!type.getKind().isPrimitive() && !isWrittenOut) {
            breaks(5, tree, "a static field that is neither a constant nor a row that is written out");
        }
    }

    @Override
    public Void visitMethodInvocation(MethodInvocationTree tree, Void none) {
        ExecutableElement called = (ExecutableElement) element();
        if (isOwn(called)) {
            callees.computeIfAbsent(caller, unused -> new TreeSet<>()).add(named(called));
        } else {
            String name = called.getEnclosingElement().getSimpleName() + "." + called.getSimpleName();
            // The call of Object's constructor that the compiler writes stands in no source.
            if (!LIBRARY.contains(name) && !name.equals("Object.<init>")) {
                breaks(4, tree, name);
            }
        }
        return super.visitMethodInvocation(tree, none);
    }

    @Override
    public Void visitNewClass(NewClassTree tree, Void none) {
        Element made = element();
        if (isOwn(made)) {
            callees.computeIfAbsent(caller, unused -> new TreeSet<>()).add(named((ExecutableElement) made));
        } else {
            breaks(4, tree, "new " + made.getEnclosingElement());
        }
        if (tree.getClassBody() != null) {
            breaks(2, tree, "an anonymous class");
        }
        return super.visitNewClass(tree, none);
    }

    @Override
    public Void visitBinary(BinaryTree tree, Void none) {
        TypeMirror type = trees.getTypeMirror(getCurrentPath());
        if (type != null && !type.getKind().isPrimitive()) {
            breaks(10, tree, "texts joined by +");
        }
        return super.visitBinary(tree, none);
    }

    @Override
    public Void visitForLoop(ForLoopTree tree, Void none) {
        if (tree.getCondition() == null || tree.getUpdate().isEmpty()) {
            breaks(9, tree, "a loop without a bound");
        }
        return super.visitForLoop(tree, none);
    }

    @Override
    public Void visitWhileLoop(WhileLoopTree tree, Void none) {
        breaks(9, tree, "a loop without a counter");
        return super.visitWhileLoop(tree, none);
    }

    @Override
    public Void visitDoWhileLoop(DoWhileLoopTree tree, Void none) {
        breaks(9, tree, "a loop without a counter");
        return super.visitDoWhileLoop(tree, none);
    }

    @Override
    public Void visitLambdaExpression(LambdaExpressionTree tree, Void none) {
        breaks(2, tree, "a lambda");
        return super.visitLambdaExpression(tree, none);
    }

    @Override
    public Void visitMemberReference(MemberReferenceTree tree, Void none) {
        breaks(2, tree, "a method reference");
        return super.visitMemberReference(tree, none);
    }

    @Override
    public Void visitThrow(ThrowTree tree, Void none) {
        breaks(6, tree, "throw");
        return super.visitThrow(tree, none);
    }

    @Override
    public Void visitTry(TryTree tree, Void none) {
        breaks(6, tree, "try");
        return super.visitTry(tree, none);
    }

    @Override
    public Void visitSynchronized(SynchronizedTree tree, Void none) {
        breaks(6, tree, "synchronized");
        return super.visitSynchronized(tree, none);
    }

    @Override
    public Void visitAssert(AssertTree tree, Void none) {
        breaks(6, tree, "assert");
        return super.visitAssert(tree, none);
    }

    @Override
    public Void visitTypeCast(TypeCastTree tree, Void none) {
        breaks(6, tree, "a cast, which the class has no use for");
        return super.visitTypeCast(tree, none);
    }

    @Override
    public Void visitInstanceOf(InstanceOfTree tree, Void none) {
        breaks(6, tree, "instanceof, which the class has no use for");
        return super.visitInstanceOf(tree, none);
    }
}
