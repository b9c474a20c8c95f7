import com.sun.source.tree.AssertTree;
import com.sun.source.tree.BinaryTree;
import com.sun.source.tree.ClassTree;
import com.sun.source.tree.CompilationUnitTree;
import com.sun.source.tree.CompoundAssignmentTree;
import com.sun.source.tree.EnhancedForLoopTree;
import com.sun.source.tree.ExpressionTree;
import com.sun.source.tree.ForLoopTree;
import com.sun.source.tree.InstanceOfTree;
import com.sun.source.tree.LambdaExpressionTree;
import com.sun.source.tree.LiteralTree;
import com.sun.source.tree.MemberReferenceTree;
import com.sun.source.tree.MethodInvocationTree;
import com.sun.source.tree.MethodTree;
import com.sun.source.tree.NewClassTree;
import com.sun.source.tree.SynchronizedTree;
import com.sun.source.tree.ThrowTree;
import com.sun.source.tree.Tree;
import com.sun.source.tree.TryTree;
import com.sun.source.tree.TypeCastTree;
import com.sun.source.tree.VariableTree;
import com.sun.source.util.JavacTask;
import com.sun.source.util.TreePathScanner;
import com.sun.source.util.Trees;
import java.io.IOException;
import java.nio.file.Path;
import java.util.ArrayList;
import java.util.LinkedHashMap;
import java.util.LinkedHashSet;
import java.util.List;
import java.util.Map;
import java.util.Set;
import javax.lang.model.element.Element;
import javax.lang.model.element.ElementKind;
import javax.lang.model.element.ExecutableElement;
import javax.lang.model.element.Modifier;
import javax.lang.model.element.VariableElement;
import javax.lang.model.type.TypeMirror;
import javax.tools.JavaCompiler;
import javax.tools.StandardJavaFileManager;
import javax.tools.ToolProvider;

/** LANGUAGE.md, read off the compiler's tree of the class: what it calls, makes, throws, and how deep its calls go. */
public final class RulesTest extends TreePathScanner<Void, Void> {
    private static final Path FILE = Path.of("src/main/java/ParcelSorter.java");
    /** Of the library that rule 4 lists, what the class calls; whoever adds a line looks at rule 4 first. */
    private static final Set<String> LIBRARY = Set.of(
        "java.lang.StringBuilder.append(char)", "java.lang.StringBuilder.append(int)",
        "java.lang.StringBuilder.charAt(int)", "java.lang.StringBuilder.setLength(int)",
        "java.lang.StringBuilder.length()", "java.lang.Math.max(int,int)", "java.lang.Math.min(int,int)",
        "java.lang.System.arraycopy(java.lang.Object,int,java.lang.Object,int,int)",
        "java.util.Arrays.fill(int[],int)");
    private static final Set<String> EXCEPTIONS = Set.of(
        "IllegalStateException", "IllegalArgumentException", "IndexOutOfBoundsException", "ArithmeticException",
        "UnsupportedOperationException", "NoSuchElementException", "RuntimeException");
    private static final Set<String> CONSTANTS = Set.of("int", "long", "boolean", "char", "java.lang.String");
    private static final String TYPES = "(int|long|boolean|char|double|java\\.lang\\.String|java\\.lang\\.StringBuilder"
        + "|ParcelSorter(\\.\\w+)?)(\\[\\])?";
    private static final int DEEPEST = 8;

    private final Trees trees;
    private final CompilationUnitTree unit;
    private final Map<Element, Set<Element>> calls = new LinkedHashMap<>();
    private Element method;
    private int classes;

    private RulesTest(Trees trees, CompilationUnitTree unit) {
        this.trees = trees;
        this.unit = unit;
    }

    public static void main(String[] args) throws IOException {
        JavaCompiler compiler = ToolProvider.getSystemJavaCompiler();
        try (StandardJavaFileManager files = compiler.getStandardFileManager(null, null, null)) {
            JavacTask task = (JavacTask) compiler.getTask(null, files, null, List.of("-proc:none"), null,
                files.getJavaFileObjects(FILE));
            CompilationUnitTree unit = task.parse().iterator().next();
            task.analyze();
            RulesTest test = new RulesTest(Trees.instance(task), unit);
            test.scan(unit, null);
            test.depth();
            Check.yes("at most twelve classes", test.classes <= 12);
        }
        Check.end();
    }

    private Element element() {
        return trees.getElement(getCurrentPath());
    }

    private String at(Tree tree) {
        return " in line " + unit.getLineMap().getLineNumber(start(tree));
    }

    private long start(Tree tree) {
        return trees.getSourcePositions().getStartPosition(unit, tree);
    }

    private boolean isOwn(Element element) {
        Element outer = element;
        while (outer.getEnclosingElement().getKind() != ElementKind.PACKAGE) {
            outer = outer.getEnclosingElement();
        }
        return outer.toString().equals("ParcelSorter");
    }

    // ---- rules 1, 2, 5 and 11: classes, fields, methods

    @Override
    public Void visitClass(ClassTree tree, Void none) {
        classes++;
        Element it = element();
        if (!it.toString().equals("ParcelSorter")) {
            Check.yes("static" + at(tree), it.getModifiers().contains(Modifier.STATIC));
            Check.no("not public" + at(tree), it.getModifiers().contains(Modifier.PUBLIC));
            Check.same("inside the one class" + at(tree), "ParcelSorter", it.getEnclosingElement().toString());
        }
        int fields = 0;
        for (Element member : it.getEnclosedElements()) {
            fields += member.getKind() == ElementKind.FIELD && !member.getModifiers().contains(Modifier.STATIC) ? 1 : 0;
            Check.no("no static block in " + it, member.getKind() == ElementKind.STATIC_INIT);
        }
        Check.yes("some twenty fields in " + it, fields <= 20);
        return super.visitClass(tree, none);
    }

    @Override
    public Void visitVariable(VariableTree tree, Void none) {
        VariableElement it = (VariableElement) element();
        TypeMirror type = it.asType();
        Check.yes("type " + type + at(tree), type.toString().matches(TYPES));
        if (it.getKind() == ElementKind.FIELD && it.getModifiers().contains(Modifier.STATIC)) {
            Check.yes("final" + at(tree), it.getModifiers().contains(Modifier.FINAL));
            Check.yes("a constant" + at(tree), CONSTANTS.contains(type.toString()) && it.getConstantValue() != null);
        }
        return super.visitVariable(tree, none);
    }

    @Override
    public Void visitMethod(MethodTree tree, Void none) {
        method = element();
        calls.computeIfAbsent(method, it -> new LinkedHashSet<>());
        Check.yes("at most seven parameters" + at(tree), tree.getParameters().size() <= 7);
        long end = trees.getSourcePositions().getEndPosition(unit, tree);
        long first = unit.getLineMap().getLineNumber(start(tree));
        Check.yes("at most sixty lines" + at(tree), unit.getLineMap().getLineNumber(end) - first < 60);
        super.visitMethod(tree, none);
        method = null;
        return none;
    }

    // ---- rules 3, 4 and 12: what is called and made

    @Override
    public Void visitMethodInvocation(MethodInvocationTree tree, Void none) {
        ExecutableElement called = (ExecutableElement) element();
        if (isOwn(called)) {
            calls.computeIfAbsent(caller(), it -> new LinkedHashSet<>()).add(called);
        } else if (called.getKind() == ElementKind.METHOD) {
            // the library has some of its methods from a class above it
            String name = (called.getEnclosingElement() + "." + called).replace(".AbstractString", ".String");
            Check.yes(name + " is listed" + at(tree), LIBRARY.contains(name));
        }
        return super.visitMethodInvocation(tree, none);
    }

    @Override
    public Void visitNewClass(NewClassTree tree, Void none) {
        Element made = element().getEnclosingElement();
        Check.yes("no anonymous class" + at(tree), tree.getClassBody() == null);
        if (isOwn(made)) {
            calls.computeIfAbsent(caller(), it -> new LinkedHashSet<>()).add(element());
        } else if (!EXCEPTIONS.contains(made.getSimpleName().toString())) {
            Check.same("made" + at(tree), "java.lang.StringBuilder", made.toString());
        }
        return super.visitNewClass(tree, none);
    }

    /** What a field is at first is made by the constructor. */
    private Element caller() {
        Element outer = method;
        if (outer == null) {
            Element field = trees.getElement(getCurrentPath().getParentPath());
            outer = field.getEnclosingElement();
            for (Element member : outer.getEnclosedElements()) {
                outer = member.getKind() == ElementKind.CONSTRUCTOR ? member : outer;
            }
        }
        return outer;
    }

    // ---- rules 3, 6, 9 and 10: statements and operators

    @Override
    public Void visitThrow(ThrowTree tree, Void none) {
        ExpressionTree thrown = tree.getExpression();
        Check.yes("throws a new one" + at(tree), thrown instanceof NewClassTree);
        if (thrown instanceof NewClassTree made) {
            Check.yes("one of rule 6" + at(tree), EXCEPTIONS.contains(made.getIdentifier().toString()));
            Check.yes("a written text or none" + at(tree), made.getArguments().isEmpty()
                || made.getArguments().size() == 1 && made.getArguments().get(0) instanceof LiteralTree);
        }
        Check.no("in no constructor" + at(tree), method.getKind() == ElementKind.CONSTRUCTOR);
        return super.visitThrow(tree, none);
    }

    @Override
    public Void visitForLoop(ForLoopTree tree, Void none) {
        Check.yes("one counter" + at(tree), tree.getInitializer().size() == 1 && tree.getUpdate().size() == 1);
        Check.yes("against a bound" + at(tree), tree.getCondition() != null
            && tree.getCondition().toString().matches("[ij] (<|<=|>) [\\w.]+(\\[\\w+\\])?( && .*)?"));
        return super.visitForLoop(tree, none);
    }

    @Override
    public Void visitBinary(BinaryTree tree, Void none) {
        String type = trees.getTypeMirror(getCurrentPath()).toString();
        Check.yes("numbers and conditions alone" + at(tree), Set.of("int", "boolean", "double").contains(type));
        return super.visitBinary(tree, none);
    }

    @Override
    public Void visitCompoundAssignment(CompoundAssignmentTree tree, Void none) {
        Check.same("numbers alone" + at(tree), "int", trees.getTypeMirror(getCurrentPath()).toString());
        return super.visitCompoundAssignment(tree, none);
    }

    @Override
    public Void visitTypeCast(TypeCastTree tree, Void none) {
        Check.same("no cast but of numbers" + at(tree), "double", tree.getType().toString());
        return super.visitTypeCast(tree, none);
    }

    private void isNotThere(String what, Tree tree) {
        Check.no(what + at(tree), true);
    }

    @Override
    public Void visitTry(TryTree tree, Void none) {
        isNotThere("try", tree);
        return super.visitTry(tree, none);
    }

    @Override
    public Void visitLambdaExpression(LambdaExpressionTree tree, Void none) {
        isNotThere("a lambda", tree);
        return super.visitLambdaExpression(tree, none);
    }

    @Override
    public Void visitMemberReference(MemberReferenceTree tree, Void none) {
        isNotThere("a method reference", tree);
        return super.visitMemberReference(tree, none);
    }

    @Override
    public Void visitSynchronized(SynchronizedTree tree, Void none) {
        isNotThere("synchronized", tree);
        return super.visitSynchronized(tree, none);
    }

    @Override
    public Void visitAssert(AssertTree tree, Void none) {
        isNotThere("assert", tree);
        return super.visitAssert(tree, none);
    }

    @Override
    public Void visitInstanceOf(InstanceOfTree tree, Void none) {
        isNotThere("instanceof", tree);
        return super.visitInstanceOf(tree, none);
    }

    @Override
    public Void visitEnhancedForLoop(EnhancedForLoopTree tree, Void none) {
        isNotThere("for over a list", tree);
        return super.visitEnhancedForLoop(tree, none);
    }

    // ---- rules 8 and 11: no recursion, and calls at most eight deep

    private void depth() {
        for (Element it : calls.keySet()) {
            int depth = depth(it, new ArrayList<>());
            Check.yes(it + " of " + it.getEnclosingElement() + " is " + depth + " deep", depth <= DEEPEST);
        }
        Check.yes("calls were read", calls.size() > 80);
    }

    private int depth(Element it, List<Element> open) {
        if (open.contains(it)) {
            Check.no("recursion through " + it, true);
            return 0;
        }
        open.add(it);
        int deepest = 0;
        for (Element called : calls.getOrDefault(it, Set.of())) {
            deepest = Math.max(deepest, depth(called, open));
        }
        open.remove(it);
        return deepest + 1;
    }
}
