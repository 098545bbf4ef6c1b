import com.sun.source.tree.AssertTree;
import com.sun.source.tree.BinaryTree;
import com.sun.source.tree.ClassTree;
import com.sun.source.tree.CompilationUnitTree;
import com.sun.source.tree.IdentifierTree;
import com.sun.source.tree.InstanceOfTree;
import com.sun.source.tree.LambdaExpressionTree;
import com.sun.source.tree.LiteralTree;
import com.sun.source.tree.MemberReferenceTree;
import com.sun.source.tree.MemberSelectTree;
import com.sun.source.tree.MethodInvocationTree;
import com.sun.source.tree.MethodTree;
import com.sun.source.tree.NewClassTree;
import com.sun.source.tree.SynchronizedTree;
import com.sun.source.tree.ThrowTree;
import com.sun.source.tree.Tree;
import com.sun.source.tree.TryTree;
import com.sun.source.tree.TypeCastTree;
import com.sun.source.tree.VariableTree;
import com.sun.source.util.JavacTask;
import com.sun.source.util.SourcePositions;
import com.sun.source.util.TreePathScanner;
import com.sun.source.util.Trees;
import java.io.File;
import java.util.ArrayList;
import java.util.HashMap;
import java.util.HashSet;
import java.util.List;
import java.util.Map;
import java.util.Set;
import java.util.TreeSet;
import javax.lang.model.element.Element;
import javax.lang.model.element.ElementKind;
import javax.lang.model.element.Modifier;
import javax.lang.model.type.ArrayType;
import javax.lang.model.type.TypeKind;
import javax.lang.model.type.TypeMirror;
import javax.tools.JavaCompiler;
import javax.tools.StandardJavaFileManager;
import javax.tools.ToolProvider;

/**
 * The rules of LANGUAGE.md that can be seen in the source, as the compiler reads it. The class needs
 * less than the rules let stand, and this test only lets stand what the class needs: no texts, no
 * lists, no casts.
 */
public final class LanguageTest extends TreePathScanner<Void, Void> {
    private static final Checks CHECKS = new Checks("LanguageTest");
    private static final File SOURCE = new File("src/main/java/DimensionLines.java");
    /** Of rule 4. */
    private static final Set<String> LIBRARY = Set.of("java.lang.Math.min(int,int)", "java.lang.Math.max(int,int)",
            "java.util.Arrays.fill(int[],int)", "java.lang.System.arraycopy(java.lang.Object,int,java.lang.Object,int,int)");
    private static final int DEEPEST = 8;
    private static final int LONGEST_METHOD = 60;

    private final Trees trees;
    private final CompilationUnitTree unit;
    private final SourcePositions places;
    private final Map<Element, Set<Element>> callsOf = new HashMap<>();
    private Element method = null;
    private int measured = 0;

    private LanguageTest(Trees trees, CompilationUnitTree unit) {
        this.trees = trees;
        this.unit = unit;
        this.places = trees.getSourcePositions();
    }

    public static void main(String[] args) throws Exception {
        JavaCompiler compiler = ToolProvider.getSystemJavaCompiler();
        try (StandardJavaFileManager files = compiler.getStandardFileManager(null, null, null)) {
            JavacTask task = (JavacTask) compiler.getTask(null, files, null, List.of("-proc:none"), null,
                    files.getJavaFileObjects(SOURCE));
            CompilationUnitTree unit = task.parse().iterator().next();
            task.analyze();
            LanguageTest test = new LanguageTest(Trees.instance(task), unit);
            test.scan(unit, null);
            test.callsAreNotTooDeep();
        }
        CHECKS.finish();
    }

    private void refuse(int rule, Tree tree) {
        refuse(rule, tree, true);
    }

    private void refuse(int rule, Tree tree, boolean refused) {
        long line = unit.getLineMap().getLineNumber(places.getStartPosition(unit, tree));
        String text = tree.toString().strip();
        CHECKS.holds("rule " + rule + ", line " + line + ": " + text.substring(0, Math.min(60, text.length())), !refused);
    }

    private Element element() {
        return trees.getElement(getCurrentPath());
    }

    private static boolean isOwn(Element element) {
        Element outermost = element;
        while (outermost.getEnclosingElement() != null && outermost.getEnclosingElement().getKind() != ElementKind.PACKAGE) {
            outermost = outermost.getEnclosingElement();
        }
        return outermost.getSimpleName().contentEquals("DimensionLines");
    }

    /** Rules 3 and 5: numbers and boolean, rows of them and of own classes, rows of rows of numbers. */
    private static boolean isPlain(TypeMirror type, Element own) {
        if (type.getKind() != TypeKind.ARRAY) {
            return type.getKind().isPrimitive() || own != null && isOwn(own);
        }
        TypeMirror part = ((ArrayType) type).getComponentType();
        if (part.getKind() == TypeKind.ARRAY) {
            TypeMirror inner = ((ArrayType) part).getComponentType();
            return inner.getKind().isPrimitive() && inner.getKind() != TypeKind.BOOLEAN;
        }
        return part.getKind().isPrimitive() || part.toString().startsWith("DimensionLines");
    }

    @Override
    public Void visitVariable(VariableTree tree, Void nothing) {
        TypeMirror type = trees.getTypeMirror(getCurrentPath());
        boolean own = type.toString().startsWith("DimensionLines");
        refuse(3, tree, !isPlain(type, own ? element() : null));
        if (tree.getModifiers().getFlags().contains(Modifier.STATIC)) {
            refuse(5, tree, !tree.getModifiers().getFlags().contains(Modifier.FINAL) || !type.getKind().isPrimitive());
        }
        return super.visitVariable(tree, nothing);
    }

    @Override
    public Void visitClass(ClassTree tree, Void nothing) {
        Set<Modifier> flags = tree.getModifiers().getFlags();
        boolean isFace = tree.getSimpleName().contentEquals("DimensionLines");
        refuse(2, tree, !isFace && !flags.contains(Modifier.STATIC));
        refuse(2, tree, !isFace && (flags.contains(Modifier.PUBLIC) || flags.contains(Modifier.PROTECTED)));
        for (Tree member : tree.getMembers()) {
            refuse(5, member, member.getKind() == Tree.Kind.BLOCK);
        }
        return super.visitClass(tree, nothing);
    }

    @Override
    public Void visitMethod(MethodTree tree, Void nothing) {
        method = element();
        callsOf.computeIfAbsent(method, m -> new HashSet<>());
        long end = places.getEndPosition(unit, tree);
        // a constructor that the compiler has put in has no place in the source
        if (end >= 0) {
            long first = unit.getLineMap().getLineNumber(places.getStartPosition(unit, tree));
            measured++;
            refuse(11, tree, unit.getLineMap().getLineNumber(end) - first + 1 > LONGEST_METHOD);
        }
        refuse(11, tree, tree.getParameters().size() > 7);
        refuse(6, tree, Set.of("equals", "hashCode", "toString").contains(tree.getName().toString()));
        super.visitMethod(tree, nothing);
        method = null;
        return null;
    }

    @Override
    public Void visitMethodInvocation(MethodInvocationTree tree, Void nothing) {
        Element called = element();
        boolean isConstructorOfObject = called.getKind() == ElementKind.CONSTRUCTOR;
        if (isOwn(called)) {
            callsOf.computeIfAbsent(method, m -> new HashSet<>()).add(called);
        } else if (!isConstructorOfObject) {
            refuse(4, tree, !LIBRARY.contains(called.getEnclosingElement() + "." + called));
            callsOf.computeIfAbsent(method, m -> new HashSet<>()).add(called);
        }
        return super.visitMethodInvocation(tree, nothing);
    }

    @Override
    public Void visitNewClass(NewClassTree tree, Void nothing) {
        refuse(4, tree, !isOwn(element()));
        refuse(2, tree, tree.getClassBody() != null);
        // objects are made in constructors and initialisers alone, so that no call takes room
        refuse(12, tree, method != null && method.getKind() != ElementKind.CONSTRUCTOR);
        return super.visitNewClass(tree, nothing);
    }

    @Override
    public Void visitIdentifier(IdentifierTree tree, Void nothing) {
        Element used = element();
        boolean isType = used != null && (used.getKind().isClass() || used.getKind().isInterface());
        refuse(4, tree, isType && !isOwn(used)
                && !Set.of("Math", "Arrays", "System").contains(used.getSimpleName().toString()));
        return super.visitIdentifier(tree, nothing);
    }

    @Override
    public Void visitMemberSelect(MemberSelectTree tree, Void nothing) {
        Element used = element();
        refuse(4, tree, used != null && used.getKind() == ElementKind.FIELD && !isOwn(used)
                && !used.getSimpleName().contentEquals("length"));
        return super.visitMemberSelect(tree, nothing);
    }

    @Override
    public Void visitLiteral(LiteralTree tree, Void nothing) {
        refuse(10, tree, tree.getValue() instanceof String);
        refuse(3, tree, tree.getValue() instanceof Character && (char) tree.getValue() > 127);
        return super.visitLiteral(tree, nothing);
    }

    /** Rule 7: a divisor that is written down is never 0; there is no other one. */
    @Override
    public Void visitBinary(BinaryTree tree, Void nothing) {
        if (tree.getKind() == Tree.Kind.DIVIDE || tree.getKind() == Tree.Kind.REMAINDER) {
            boolean isNumber = tree.getRightOperand() instanceof LiteralTree;
            boolean isConstant = tree.getRightOperand().toString().matches("MOST_[A-Z]+");
            refuse(7, tree, !isNumber && !isConstant || tree.getRightOperand().toString().equals("0"));
        }
        return super.visitBinary(tree, nothing);
    }

    @Override
    public Void visitThrow(ThrowTree tree, Void nothing) {
        refuse(6, tree);
        return super.visitThrow(tree, nothing);
    }

    @Override
    public Void visitTry(TryTree tree, Void nothing) {
        refuse(6, tree);
        return super.visitTry(tree, nothing);
    }

    @Override
    public Void visitSynchronized(SynchronizedTree tree, Void nothing) {
        refuse(6, tree);
        return super.visitSynchronized(tree, nothing);
    }

    @Override
    public Void visitAssert(AssertTree tree, Void nothing) {
        refuse(6, tree);
        return super.visitAssert(tree, nothing);
    }

    @Override
    public Void visitInstanceOf(InstanceOfTree tree, Void nothing) {
        refuse(6, tree);
        return super.visitInstanceOf(tree, nothing);
    }

    @Override
    public Void visitTypeCast(TypeCastTree tree, Void nothing) {
        refuse(6, tree);
        return super.visitTypeCast(tree, nothing);
    }

    @Override
    public Void visitLambdaExpression(LambdaExpressionTree tree, Void nothing) {
        refuse(2, tree);
        return super.visitLambdaExpression(tree, nothing);
    }

    @Override
    public Void visitMemberReference(MemberReferenceTree tree, Void nothing) {
        refuse(2, tree);
        return super.visitMemberReference(tree, nothing);
    }

    /** Rules 8 and 11: the class has no recursion at all, and calls go at most eight deep. */
    private void callsAreNotTooDeep() {
        Set<String> names = new TreeSet<>();
        for (Element start : new ArrayList<>(callsOf.keySet())) {
            List<Element> way = deepest(start, new ArrayList<>());
            CHECKS.holds("rule 11, calls go too deep: " + way, way.size() <= DEEPEST);
            names.add(String.valueOf(start));
        }
        CHECKS.holds("the methods were found: " + names, names.contains("digest()") && names.size() > 60);
        CHECKS.holds("the methods were measured: " + measured, measured > 60);
    }

    private List<Element> deepest(Element called, List<Element> open) {
        CHECKS.holds("rule 8, a recursion: " + open + " " + called, !open.contains(called));
        List<Element> longest = new ArrayList<>();
        if (open.contains(called)) {
            return longest;
        }
        open.add(called);
        for (Element next : callsOf.getOrDefault(called, Set.of())) {
            List<Element> way = deepest(next, open);
            longest = way.size() > longest.size() ? way : longest;
        }
        open.remove(called);
        List<Element> whole = new ArrayList<>(List.of(called));
        whole.addAll(longest);
        return whole;
    }
}
