import com.sun.source.tree.BinaryTree;
import com.sun.source.tree.ClassTree;
import com.sun.source.tree.CompilationUnitTree;
import com.sun.source.tree.MethodInvocationTree;
import com.sun.source.tree.MethodTree;
import com.sun.source.tree.NewClassTree;
import com.sun.source.tree.Tree;
import com.sun.source.util.JavacTask;
import com.sun.source.util.TreePath;
import com.sun.source.util.TreePathScanner;
import com.sun.source.util.Trees;
import java.io.IOException;
import java.util.ArrayDeque;
import java.util.Deque;
import java.util.HashMap;
import java.util.List;
import java.util.Map;
import java.util.Set;
import java.util.TreeSet;
import javax.lang.model.element.Element;
import javax.lang.model.element.ElementKind;
import javax.lang.model.type.TypeMirror;
import javax.tools.JavaCompiler;
import javax.tools.StandardJavaFileManager;
import javax.tools.ToolProvider;

/** Rules 4, 6, 8, 10, 11 of LANGUAGE.md by the compiler's own reading: which method calls which, and the library. */
public final class CallsTest extends TreePathScanner<Void, Trees> {
    private static final int MOST_DEPTH = 8;
    private static final Map<String, Set<String>> LIBRARY = Map.of(
        "java.lang.Object", Set.of("<init>"),
        "java.lang.String", Set.of("length", "charAt", "isEmpty", "equals", "indexOf", "substring", "toCharArray"),
        "java.lang.Math", Set.of("min", "max", "abs", "floorDiv", "floorMod"),
        "java.lang.System", Set.of("arraycopy"),
        "java.util.Arrays", Set.of("copyOf", "copyOfRange", "fill"),
        "java.util.ArrayList", Set.of("<init>", "add", "get", "set", "remove", "size", "isEmpty", "clear"));
    private static final Set<String> NEVER_COMPARED = Set.of("java.lang.String", "java.lang.Integer");
    private static final Check check = new Check("CallsTest");

    private final Map<String, Set<String>> calls = new HashMap<>();
    private final Map<String, Integer> depths = new HashMap<>();
    private final Deque<String> callers = new ArrayDeque<>();

    public static void main(String[] args) throws IOException {
        String path = args.length > 0 ? args[0] : "src/main/java/FoodShares.java";
        JavaCompiler compiler = ToolProvider.getSystemJavaCompiler();
        CallsTest test = new CallsTest();
        try (StandardJavaFileManager files = compiler.getStandardFileManager(null, null, null)) {
            JavacTask task = (JavacTask) compiler.getTask(null, files, null, List.of("-proc:none"), null,
                files.getJavaFileObjects(path));
            Iterable<? extends CompilationUnitTree> units = task.parse();
            task.analyze();
            for (CompilationUnitTree unit : units) {
                test.scan(new TreePath(unit), Trees.instance(task));
            }
        }
        for (String caller : test.calls.keySet()) {
            int depth = test.depthOf(caller, new TreeSet<>());
            check.due(caller + " goes " + depth + " deep", depth <= MOST_DEPTH);
        }
        check.due("few methods are known: " + test.calls.size(), test.calls.size() > 27);
        check.end();
    }

    @Override
    public Void visitClass(ClassTree tree, Trees trees) {
        callers.push(fieldsOf(trees.getElement(getCurrentPath())));
        super.visitClass(tree, trees);
        callers.pop();
        return null;
    }

    @Override
    public Void visitMethod(MethodTree tree, Trees trees) {
        Element method = trees.getElement(getCurrentPath());
        callers.push(nameOf(method));
        calls.computeIfAbsent(nameOf(method), name -> new TreeSet<>());
        if (method.getKind() == ElementKind.CONSTRUCTOR) {
            note(fieldsOf(method.getEnclosingElement()));
        }
        super.visitMethod(tree, trees);
        callers.pop();
        return null;
    }

    @Override
    public Void visitMethodInvocation(MethodInvocationTree tree, Trees trees) {
        called(trees.getElement(getCurrentPath()));
        return super.visitMethodInvocation(tree, trees);
    }

    @Override
    public Void visitNewClass(NewClassTree tree, Trees trees) {
        check.due("a class without a name: " + tree, tree.getClassBody() == null);
        called(trees.getElement(getCurrentPath()));
        return super.visitNewClass(tree, trees);
    }

    @Override
    public Void visitBinary(BinaryTree tree, Trees trees) {
        String left = typeOf(trees, tree.getLeftOperand());
        String right = typeOf(trees, tree.getRightOperand());
        boolean compares = tree.getKind() == Tree.Kind.EQUAL_TO || tree.getKind() == Tree.Kind.NOT_EQUAL_TO;
        check.due("joined or compared: " + tree, !(compares ? NEVER_COMPARED.contains(left)
            && NEVER_COMPARED.contains(right) : NEVER_COMPARED.contains(left) || NEVER_COMPARED.contains(right)));
        return super.visitBinary(tree, trees);
    }

    private String typeOf(Trees trees, Tree operand) {
        TypeMirror type = trees.getTypeMirror(new TreePath(getCurrentPath(), operand));
        return type == null ? "" : type.toString();
    }

    private static String nameOf(Element method) {
        return method.getEnclosingElement() + "." + method;
    }

    /** Each constructor gives the fields their first values, as if by a call. */
    private static String fieldsOf(Element type) {
        return "the fields of " + type;
    }

    private void note(String callee) {
        calls.computeIfAbsent(callers.peek(), name -> new TreeSet<>()).add(callee);
    }

    private void called(Element method) {
        String owner = method.getEnclosingElement().toString().replaceAll("<.*", "");
        if (owner.startsWith("FoodShares")) {
            note(nameOf(method));
            return;
        }
        String name = method.getSimpleName().toString();
        check.due(owner + "." + name + " is not in the library", LIBRARY.getOrDefault(owner, Set.of()).contains(name));
        note(owner + "." + name);
    }

    /** How many calls stand open at once at most, this one among them. */
    private int depthOf(String caller, Set<String> open) {
        if (depths.containsKey(caller)) {
            return depths.get(caller);
        }
        if (!open.add(caller)) {
            check.due(caller + " comes back to itself", false);
            return 0;
        }
        int deepest = 0;
        for (String callee : calls.getOrDefault(caller, Set.of())) {
            deepest = Math.max(deepest, depthOf(callee, open));
        }
        open.remove(caller);
        depths.put(caller, deepest + 1);
        return deepest + 1;
    }
}
