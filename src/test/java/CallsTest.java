import com.sun.source.tree.ClassTree;
import com.sun.source.tree.CompilationUnitTree;
import com.sun.source.tree.LambdaExpressionTree;
import com.sun.source.tree.LineMap;
import com.sun.source.tree.MemberReferenceTree;
import com.sun.source.tree.MethodInvocationTree;
import com.sun.source.tree.MethodTree;
import com.sun.source.tree.NewClassTree;
import com.sun.source.tree.ThrowTree;
import com.sun.source.tree.Tree;
import com.sun.source.tree.TryTree;
import com.sun.source.util.JavacTask;
import com.sun.source.util.TreePath;
import com.sun.source.util.TreePathScanner;
import com.sun.source.util.Trees;
import java.io.IOException;
import java.nio.file.Path;
import java.util.ArrayList;
import java.util.List;
import java.util.Map;
import java.util.Set;
import java.util.TreeMap;
import java.util.TreeSet;
import javax.lang.model.element.Element;
import javax.lang.model.element.ExecutableElement;
import javax.lang.model.element.Modifier;
import javax.lang.model.element.TypeElement;
import javax.tools.JavaCompiler;
import javax.tools.StandardJavaFileManager;
import javax.tools.ToolProvider;

/** Who calls whom in the class, as the compiler sees it: rules 4, 6, 8 and 11 of LANGUAGE.md. */
public final class CallsTest extends TreePathScanner<Void, Void> {
    private static final int MOST_DEEP = 8;
    private static final int MOST_LINES = 60;
    private static final Set<String> LIBRARY = Set.of("java.lang.String.length", "java.lang.String.charAt",
            "java.lang.Integer.bitCount", "java.lang.Integer.compare", "java.lang.Integer.numberOfTrailingZeros",
            "java.lang.Math.abs", "java.lang.Math.max", "java.lang.Math.min", "java.lang.System.arraycopy",
            "java.util.Arrays.fill");
    private static final Set<String> EXCEPTIONS = Set.of("java.lang.IllegalStateException",
            "java.lang.IllegalArgumentException", "java.lang.IndexOutOfBoundsException", "java.util.NoSuchElementException");

    private static final Check c = new Check();
    private final Trees trees;
    private final LineMap lines;
    private final CompilationUnitTree unit;
    /** Of each method whom it calls; what a field begins with is called by the constructors. */
    private final Map<String, Set<String>> calls = new TreeMap<>();
    private final Set<String> mayCallItself = new TreeSet<>();
    private String caller = "";

    private CallsTest(Trees trees, CompilationUnitTree unit) {
        this.trees = trees;
        this.unit = unit;
        this.lines = unit.getLineMap();
    }

    public static void main(String[] args) throws IOException {
        JavaCompiler compiler = ToolProvider.getSystemJavaCompiler();
        try (StandardJavaFileManager files = compiler.getStandardFileManager(null, null, null)) {
            JavacTask task = (JavacTask) compiler.getTask(null, files, null, List.of("-proc:none"), null,
                    files.getJavaFileObjects(Path.of("src/main/java/TwoHandles.java")));
            CompilationUnitTree unit = task.parse().iterator().next();
            task.analyze();
            CallsTest test = new CallsTest(Trees.instance(task), unit);
            test.scan(unit, null);
            test.chains();
        }
        c.end("CallsTest");
    }

    private static String nameOf(Element e) {
        if (e.getKind() == javax.lang.model.element.ElementKind.CONSTRUCTOR) {
            return ((TypeElement) e.getEnclosingElement()).getQualifiedName() + ".new";
        }
        return ((TypeElement) e.getEnclosingElement()).getQualifiedName() + "." + e.getSimpleName();
    }

    @Override
    public Void visitClass(ClassTree node, Void none) {
        String before = caller;
        caller = ((TypeElement) trees.getElement(getCurrentPath())).getQualifiedName() + ".new";
        calls.putIfAbsent(caller, new TreeSet<>());
        super.visitClass(node, none);
        caller = before;
        return null;
    }

    @Override
    public Void visitMethod(MethodTree node, Void none) {
        String before = caller;
        ExecutableElement method = (ExecutableElement) trees.getElement(getCurrentPath());
        caller = nameOf(method);
        boolean first = calls.put(caller, calls.getOrDefault(caller, new TreeSet<>())) == null || caller.endsWith(".new");
        c.holds(caller + " is the only one of its name", first);
        if (method.getModifiers().containsAll(Set.of(Modifier.PRIVATE, Modifier.STATIC))) {
            mayCallItself.add(caller);
        }
        long from = lines.getLineNumber(trees.getSourcePositions().getStartPosition(unit, node));
        long to = lines.getLineNumber(Math.max(0, trees.getSourcePositions().getEndPosition(unit, node)));
        c.holds("11 " + caller + " has some sixty lines", to - from < MOST_LINES);
        super.visitMethod(node, none);
        caller = before;
        return null;
    }

    private void callsOn(Element callee) {
        c.holds("the compiler knows whom " + caller + " calls", callee instanceof ExecutableElement);
        String name = nameOf(callee);
        calls.get(caller).add(name);
        boolean own = name.startsWith("TwoHandles.");
        boolean made = name.endsWith(".new");
        String exception = made ? name.substring(0, name.length() - 4) : "";
        c.holds("4 " + caller + " calls " + name,
                own || LIBRARY.contains(name) || EXCEPTIONS.contains(exception) || name.equals("java.lang.Object.new"));
    }

    @Override
    public Void visitMethodInvocation(MethodInvocationTree node, Void none) {
        callsOn(trees.getElement(new TreePath(getCurrentPath(), node.getMethodSelect())));
        return super.visitMethodInvocation(node, none);
    }

    @Override
    public Void visitNewClass(NewClassTree node, Void none) {
        callsOn(trees.getElement(getCurrentPath()));
        return super.visitNewClass(node, none);
    }

    @Override
    public Void visitThrow(ThrowTree node, Void none) {
        c.holds("6 no throw in " + caller, !caller.endsWith(".new"));
        c.holds("6 " + caller + " throws what it makes there", node.getExpression().getKind() == Tree.Kind.NEW_CLASS);
        return super.visitThrow(node, none);
    }

    @Override
    public Void visitTry(TryTree node, Void none) {
        c.holds("no call is answered by a catch in " + caller, false);
        return super.visitTry(node, none);
    }

    @Override
    public Void visitLambdaExpression(LambdaExpressionTree node, Void none) {
        c.holds("2 no lambda in " + caller, false);
        return super.visitLambdaExpression(node, none);
    }

    @Override
    public Void visitMemberReference(MemberReferenceTree node, Void none) {
        c.holds("2 no method reference in " + caller, false);
        return super.visitMemberReference(node, none);
    }

    private void chains() {
        c.holds("there are calls", calls.size() > 100);
        for (String start : calls.keySet()) {
            List<String> chain = longest(start, new ArrayList<>());
            c.holds("11 at most eight deep: " + chain, chain.size() <= MOST_DEEP);
        }
    }

    /** The longest chain of calls from one on; a method that calls itself counts once. */
    private List<String> longest(String from, List<String> above) {
        List<String> most = new ArrayList<>();
        List<String> here = new ArrayList<>(above);
        here.add(from);
        for (String callee : calls.getOrDefault(from, Set.of())) {
            if (callee.equals(from)) {
                c.holds("8 private and static, as it calls itself: " + from, mayCallItself.contains(from));
            } else if (here.contains(callee)) {
                c.holds("8 no two that call one another: " + here, false);
            } else {
                List<String> chain = longest(callee, here);
                most = chain.size() > most.size() ? chain : most;
            }
        }
        most.add(0, from);
        return most;
    }
}
