import com.sun.source.tree.BinaryTree;
import com.sun.source.tree.ClassTree;
import com.sun.source.tree.CompilationUnitTree;
import com.sun.source.tree.MethodInvocationTree;
import com.sun.source.tree.MethodTree;
import com.sun.source.tree.NewArrayTree;
import com.sun.source.tree.NewClassTree;
import com.sun.source.tree.Tree;
import com.sun.source.tree.VariableTree;
import com.sun.source.util.JavacTask;
import com.sun.source.util.TreePathScanner;
import com.sun.source.util.Trees;
import java.io.IOException;
import java.nio.file.Path;
import java.util.EnumSet;
import java.util.List;
import java.util.Map;
import java.util.Set;
import java.util.TreeMap;
import java.util.TreeSet;
import javax.lang.model.element.Element;
import javax.lang.model.element.ElementKind;
import javax.lang.model.element.Modifier;
import javax.tools.JavaCompiler;
import javax.tools.StandardJavaFileManager;
import javax.tools.ToolProvider;

/** The rules of LANGUAGE.md that the compiler's tree of the class can tell: what it is made of, calls, and makes. */
public final class RulesTest extends TreePathScanner<Void, Void> {
    /** What the rules forbid, and what the class has no need of: loops but those that count, null, texts. */
    private static final Set<Tree.Kind> FORBIDDEN = EnumSet.of(Tree.Kind.IMPORT, Tree.Kind.PACKAGE, Tree.Kind.THROW,
        Tree.Kind.TRY, Tree.Kind.CATCH, Tree.Kind.SYNCHRONIZED, Tree.Kind.ASSERT, Tree.Kind.LAMBDA_EXPRESSION,
        Tree.Kind.MEMBER_REFERENCE, Tree.Kind.ANNOTATION, Tree.Kind.WHILE_LOOP, Tree.Kind.DO_WHILE_LOOP, Tree.Kind.DIVIDE_ASSIGNMENT,
        Tree.Kind.REMAINDER, Tree.Kind.REMAINDER_ASSIGNMENT, Tree.Kind.INSTANCE_OF, Tree.Kind.NULL_LITERAL,
        Tree.Kind.STRING_LITERAL, Tree.Kind.DOUBLE_LITERAL, Tree.Kind.FLOAT_LITERAL);
    private static final Set<String> LIBRARY = Set.of("java.lang.Object.Object()", "java.lang.Math.abs(int)", "java.lang.Math.max(int,int)",
        "java.lang.System.arraycopy(java.lang.Object,int,java.lang.Object,int,int)");
    private static final Set<String> TYPES = Set.of("int", "long", "char", "boolean", "int[]", "boolean[]", "char[]", "Clock", "Clock[]",
        "State", "State[]", "History", "Row", "Pad");
    private static final int DEEPEST = 8;

    private final Check check = new Check();
    private final Trees trees;
    private final CompilationUnitTree unit;
    private final Map<String, Set<String>> callsOf = new TreeMap<>();
    private String method = "";
    private boolean inConstructor;

    private RulesTest(Trees trees, CompilationUnitTree unit) {
        this.trees = trees;
        this.unit = unit;
    }

    public static void main(String[] args) throws IOException {
        JavaCompiler compiler = ToolProvider.getSystemJavaCompiler();
        try (StandardJavaFileManager files = compiler.getStandardFileManager(null, null, null)) {
            JavacTask task = (JavacTask) compiler.getTask(null, files, null, List.of("-proc:none"), null,
                files.getJavaFileObjects(Path.of("src/main/java/WinderLadders.java")));
            CompilationUnitTree unit = task.parse().iterator().next();
            task.analyze();
            RulesTest test = new RulesTest(Trees.instance(task), unit);
            test.scan(unit, null);
            test.callsAreShallow();
            test.check.end("RulesTest");
        }
    }

    private String place(Tree tree) {
        return " at line " + unit.getLineMap().getLineNumber(trees.getSourcePositions().getStartPosition(unit, tree));
    }

    @Override
    public Void scan(Tree tree, Void none) {
        if (tree != null) {
            check.due(tree.getKind() + place(tree), 0, FORBIDDEN.contains(tree.getKind()) ? 1 : 0);
        }
        return super.scan(tree, none);
    }

    /** Rules 1 and 2: one public class, all others private, static and named. */
    @Override
    public Void visitClass(ClassTree tree, Void none) {
        Set<Modifier> want = tree.getSimpleName().contentEquals("WinderLadders") ? Set.of(Modifier.PUBLIC, Modifier.FINAL)
            : Set.of(Modifier.PRIVATE, Modifier.STATIC, Modifier.FINAL);
        check.due(tree.getSimpleName() + " is " + want, 1, want.equals(tree.getModifiers().getFlags()) ? 1 : 0);
        return super.visitClass(tree, none);
    }

    /** Rules 3 and 5: the types of all variables, and static ones that never change. */
    @Override
    public Void visitVariable(VariableTree tree, Void none) {
        check.due("type of " + tree.getName() + place(tree), 1, TYPES.contains(tree.getType().toString()) ? 1 : 0);
        Element variable = trees.getElement(getCurrentPath());
        if (variable.getModifiers().contains(Modifier.STATIC)) {
            check.due(tree.getName() + " is final", 1, variable.getModifiers().contains(Modifier.FINAL) ? 1 : 0);
        }
        return super.visitVariable(tree, none);
    }

    @Override
    public Void visitMethod(MethodTree tree, Void none) {
        method = trees.getElement(getCurrentPath()).getEnclosingElement() + "." + trees.getElement(getCurrentPath());
        inConstructor = tree.getReturnType() == null;
        check.due("parameters of " + method, 1, tree.getParameters().size() <= 7 ? 1 : 0);
        callsOf.put(method, new TreeSet<>());
        super.visitMethod(tree, none);
        method = "";
        return null;
    }

    /** Rule 4: what is called is the program's own, or the library's of a few. */
    @Override
    public Void visitMethodInvocation(MethodInvocationTree tree, Void none) {
        Element called = trees.getElement(getCurrentPath());
        noteCall(called.getEnclosingElement() + "." + called, tree);
        if (called.getKind() == ElementKind.CONSTRUCTOR) {
            check.due("only super() is called by name" + place(tree), 1, called.toString().equals("Object()") ? 1 : 0);
        }
        return super.visitMethodInvocation(tree, none);
    }

    private void noteCall(String called, Tree tree) {
        if (called.startsWith("WinderLadders")) {
            if (!method.isEmpty()) {
                callsOf.get(method).add(called);
            }
        } else {
            check.due(called + place(tree), 1, LIBRARY.contains(called) ? 1 : 0);
        }
    }

    /** Rule 7: only by a number that is written out, and so never by 0. */
    @Override
    public Void visitBinary(BinaryTree tree, Void none) {
        if (tree.getKind() == Tree.Kind.DIVIDE) {
            check.due("a divisor" + place(tree), 1, tree.getRightOperand().toString().matches("[1-9][0-9]*") ? 1 : 0);
        }
        return super.visitBinary(tree, none);
    }

    /** Rule 12: objects and arrays are made with the object alone, so that no call adds to what is kept. */
    @Override
    public Void visitNewClass(NewClassTree tree, Void none) {
        check.due("an object is made" + place(tree), 1, method.isEmpty() || inConstructor ? 1 : 0);
        check.due("a class without a name" + place(tree), 1, tree.getClassBody() == null ? 1 : 0);
        return super.visitNewClass(tree, none);
    }

    @Override
    public Void visitNewArray(NewArrayTree tree, Void none) {
        check.due("an array is made" + place(tree), 1, method.isEmpty() || inConstructor ? 1 : 0);
        return super.visitNewArray(tree, none);
    }

    /** Rules 8 and 11: a chain of calls that comes back to itself would be deeper than any bound. */
    private void callsAreShallow() {
        check.due("the methods are found", 1, callsOf.size() > 22 ? 1 : 0);
        for (String caller : callsOf.keySet()) {
            check.due("calls below " + caller + " are too deep", 0, depthOf(caller, DEEPEST) > DEEPEST ? 1 : 0);
        }
    }

    private int depthOf(String caller, int left) {
        int deepest = 0;
        if (left > 0) {
            for (String called : callsOf.getOrDefault(caller, Set.of())) {
                deepest = Math.max(deepest, depthOf(called, left - 1));
            }
        }
        return deepest + 1;
    }
}
