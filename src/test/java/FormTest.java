import com.sun.source.tree.ArrayAccessTree;
import com.sun.source.tree.BinaryTree;
import com.sun.source.tree.ClassTree;
import com.sun.source.tree.CompilationUnitTree;
import com.sun.source.tree.MethodInvocationTree;
import com.sun.source.tree.MethodTree;
import com.sun.source.tree.NewClassTree;
import com.sun.source.tree.Tree;
import com.sun.source.tree.TypeCastTree;
import com.sun.source.util.JavacTask;
import com.sun.source.util.TreePathScanner;
import com.sun.source.util.Trees;
import java.nio.file.Path;
import java.util.List;
import java.util.Map;
import java.util.Set;
import java.util.TreeMap;
import java.util.TreeSet;
import javax.lang.model.element.Element;
import javax.lang.model.element.ElementKind;
import javax.tools.JavaCompiler;
import javax.tools.StandardJavaFileManager;
import javax.tools.ToolProvider;

/** Rules 4, 6, 7, 8 and 11 of LANGUAGE.md, on the source as the compiler understands it. */
public final class FormTest extends TreePathScanner<Void, String> {
    private static final Path SOURCE = Path.of("src/main/java/HornRuleWorkbench.java");
    private static final int MAX_DEPTH = 8;
    private static final Set<String> LIBRARY = Set.of("java.lang.Math.max", "java.lang.Math.min",
            "java.lang.Integer.bitCount", "java.lang.System.arraycopy");
    /** The methods that look at an index before they use it; the constructors' loops run over all of a row. */
    private static final Set<String> INDEXING = Set.of("HornRuleWorkbench.<init>", "HornRuleWorkbench.bufferAt",
            "IntRow.append", "IntRow.at", "IntRow.put", "IntRow.positionOf", "IntRow.fill", "IntRow.sameAs",
            "Buffer.make", "Buffer.read", "Buffer.write");
    /** A number, a support that is not 0, and a power of two from 2 to 64. */
    private static final Set<String> DIVISORS = Set.of("65536", "supported", "(1 << attributes)");
    private static final Set<String> CASTS = Set.of("byte", "int", "long");

    private final Trees trees;
    private final Set<String> methods = new TreeSet<>();
    private final Map<String, Set<String>> calls = new TreeMap<>();

    private FormTest(Trees trees) {
        this.trees = trees;
    }

    public static void main(String[] args) throws Exception {
        JavaCompiler compiler = ToolProvider.getSystemJavaCompiler();
        try (StandardJavaFileManager files = compiler.getStandardFileManager(null, null, null)) {
            JavacTask task = (JavacTask) compiler.getTask(null, files, null, List.of("-proc:none"), null,
                    files.getJavaFileObjects(SOURCE));
            Iterable<? extends CompilationUnitTree> units = task.parse();
            task.analyze();
            FormTest test = new FormTest(Trees.instance(task));
            for (CompilationUnitTree unit : units) {
                test.scan(unit, "");
            }
            test.depths();
        }
        Due.end();
    }

    private static void dueOneOf(String what, String found, Set<String> allowed) {
        Due.due(what + " " + found, allowed.contains(found) ? 1 : 0, 1);
    }

    private static String nameOf(Element method) {
        return method.getEnclosingElement().getSimpleName() + "." + method.getSimpleName();
    }

    /** No method is overloaded, or the names would not tell the methods apart. */
    @Override
    public Void visitMethod(MethodTree node, String outer) {
        String name = nameOf(trees.getElement(getCurrentPath()));
        Due.due(name + " is there once", methods.add(name) ? 1 : 0, 1);
        return super.visitMethod(node, name);
    }

    /** What a field is made with is made by the constructor. */
    @Override
    public Void visitClass(ClassTree node, String outer) {
        return super.visitClass(node, node.getSimpleName() + ".<init>");
    }

    @Override
    public Void visitMethodInvocation(MethodInvocationTree node, String method) {
        call(method);
        return super.visitMethodInvocation(node, method);
    }

    @Override
    public Void visitNewClass(NewClassTree node, String method) {
        call(method);
        return super.visitNewClass(node, method);
    }

    private void call(String method) {
        Element called = trees.getElement(getCurrentPath());
        Element owner = called.getEnclosingElement();
        if (called.getKind() == ElementKind.CONSTRUCTOR && owner.toString().equals("java.lang.Object")) {
            return;
        }
        if (owner.toString().startsWith("HornRuleWorkbench")) {
            calls.computeIfAbsent(method, k -> new TreeSet<>()).add(nameOf(called));
        } else {
            dueOneOf("4 the library", owner + "." + called.getSimpleName(), LIBRARY);
        }
    }

    @Override
    public Void visitArrayAccess(ArrayAccessTree node, String method) {
        dueOneOf("7 an index in", method, INDEXING);
        return super.visitArrayAccess(node, method);
    }

    @Override
    public Void visitBinary(BinaryTree node, String method) {
        if (node.getKind() == Tree.Kind.DIVIDE || node.getKind() == Tree.Kind.REMAINDER) {
            dueOneOf("7 a divisor in " + method, node.getRightOperand().toString(), DIVISORS);
        }
        return super.visitBinary(node, method);
    }

    @Override
    public Void visitTypeCast(TypeCastTree node, String method) {
        dueOneOf("6 a cast in " + method, node.getType().toString(), CASTS);
        return super.visitTypeCast(node, method);
    }

    private void depths() {
        int deepest = 0;
        Map<String, Integer> known = new TreeMap<>();
        for (String method : methods) {
            deepest = Math.max(deepest, depth(method, known, new TreeSet<>()));
        }
        Due.due("11 calls go at most eight deep", deepest <= MAX_DEPTH ? 1 : 0, 1);
        System.out.println("calls go " + deepest + " deep");
    }

    private int depth(String method, Map<String, Integer> known, Set<String> open) {
        Due.due("8 no method calls itself: " + method, open.add(method) ? 1 : 0, 1);
        if (!known.containsKey(method)) {
            known.put(method, 1);
            int below = 0;
            for (String called : calls.getOrDefault(method, Set.of())) {
                below = Math.max(below, depth(called, known, open));
            }
            known.put(method, below + 1);
        }
        open.remove(method);
        return known.get(method);
    }
}
