import com.sun.source.tree.AssertTree;
import com.sun.source.tree.CompilationUnitTree;
import com.sun.source.tree.IdentifierTree;
import com.sun.source.tree.LambdaExpressionTree;
import com.sun.source.tree.MemberReferenceTree;
import com.sun.source.tree.MethodInvocationTree;
import com.sun.source.tree.MethodTree;
import com.sun.source.tree.NewClassTree;
import com.sun.source.tree.SynchronizedTree;
import com.sun.source.tree.ThrowTree;
import com.sun.source.tree.Tree;
import com.sun.source.tree.TryTree;
import com.sun.source.tree.VariableTree;
import com.sun.source.util.JavacTask;
import com.sun.source.util.TreePathScanner;
import com.sun.source.util.Trees;
import java.nio.file.Path;
import java.util.Arrays;
import java.util.HashMap;
import java.util.HashSet;
import java.util.List;
import java.util.Map;
import java.util.Set;
import java.util.TreeMap;
import java.util.TreeSet;
import javax.lang.model.element.Element;
import javax.lang.model.element.ExecutableElement;
import javax.lang.model.element.Modifier;
import javax.lang.model.element.VariableElement;
import javax.tools.JavaCompiler;
import javax.tools.StandardJavaFileManager;
import javax.tools.ToolProvider;

/** LANGUAGE.md, rules 4 to 6, 8, 11 and 12, as far as the compiler's own trees tell of them. */
public final class LanguageTest extends TreePathScanner<Void, Void> {
    private static final int MOST_LINES = 60;
    private static final int MOST_PARAMETERS = 7;
    private static final int MOST_DEEP = 8;
    private static final List<String> LIBRARY = Arrays.asList("java.lang.String.length", "java.lang.String.charAt",
        "java.lang.String.isEmpty", "java.lang.String.equals", "java.lang.String.indexOf", "java.lang.String.substring",
        "java.lang.System.arraycopy", "java.util.Arrays.copyOf", "java.util.Arrays.copyOfRange", "java.util.Arrays.fill");
    private static final List<String> NUMBERS = Arrays.asList("java.lang.Math", "java.lang.Integer", "java.lang.Long");

    private final Trees trees;
    private final CompilationUnitTree unit;
    private final Map<String, Set<String>> calls = new TreeMap<>();
    private String method = "";
    private int made;

    private LanguageTest(Trees trees, CompilationUnitTree unit) {
        this.trees = trees;
        this.unit = unit;
    }

    public static void main(String[] args) throws Exception {
        Path path = Path.of(args.length > 0 ? args[0] : "src/main/java/SoarHouse.java");
        JavaCompiler compiler = ToolProvider.getSystemJavaCompiler();
        try (StandardJavaFileManager files = compiler.getStandardFileManager(null, null, null)) {
            JavacTask task = (JavacTask) compiler.getTask(null, files, null, List.of("-proc:none"), null,
                files.getJavaFileObjects(path));
            CompilationUnitTree unit = task.parse().iterator().next();
            task.analyze();
            LanguageTest test = new LanguageTest(Trees.instance(task), unit);
            test.scan(unit, null);
            test.depths();
            Due.is("methods were seen", test.calls.size() > 100, true);
            Due.is("objects made by methods", test.made, 0);
        }
        Due.close();
    }

    private Element element() {
        return trees.getElement(getCurrentPath());
    }

    private static String name(Element element) {
        return element.getEnclosingElement() + "." + element.getSimpleName();
    }

    private int line(long position) {
        return (int) unit.getLineMap().getLineNumber(position);
    }

    private Void refuse(Tree tree) {
        Due.is(tree.getKind() + " in " + method, 1, 0);
        return null;
    }

    @Override
    public Void visitMethod(MethodTree tree, Void none) {
        String outside = method;
        method = name(element());
        calls.putIfAbsent(method, new TreeSet<>());
        int lines = line(trees.getSourcePositions().getEndPosition(unit, tree))
            - line(trees.getSourcePositions().getStartPosition(unit, tree)) + 1;
        Due.is("lines of " + method + ": " + lines, lines <= MOST_LINES, true);
        Due.is("parameters of " + method, tree.getParameters().size() <= MOST_PARAMETERS, true);
        super.visitMethod(tree, none);
        method = outside;
        return null;
    }

    @Override
    public Void visitMethodInvocation(MethodInvocationTree tree, Void none) {
        Element called = element();
        String full = name(called);
        if (full.startsWith("SoarHouse")) {
            calls.computeIfAbsent(method, key -> new TreeSet<>()).add(full);
        } else if (!full.equals("java.lang.Object.<init>")) {
            boolean numbers = NUMBERS.contains(called.getEnclosingElement().toString()) && !full.endsWith("Exact");
            Due.is("the library's " + full, numbers || LIBRARY.contains(full), true);
        }
        return super.visitMethodInvocation(tree, none);
    }

    @Override
    public Void visitNewClass(NewClassTree tree, Void none) {
        boolean inConstructor = method.isEmpty() || method.endsWith("<init>");
        made += inConstructor ? 0 : 1;
        String made = name(element());
        Due.is("made: " + made, made.startsWith("SoarHouse."), true);
        return super.visitNewClass(tree, none);
    }

    @Override
    public Void visitVariable(VariableTree tree, Void none) {
        VariableElement variable = (VariableElement) element();
        if (variable.getModifiers().contains(Modifier.STATIC)) {
            Due.is(tree.getName() + " is final", variable.getModifiers().contains(Modifier.FINAL), true);
            Due.is(tree.getName() + " is of " + variable.asType(), variable.asType().toString()
                .matches("int|long|boolean|char|java\\.lang\\.String|int\\[\\]|long\\[\\]|char\\[\\]|byte\\[\\]"), true);
        }
        return super.visitVariable(tree, none);
    }

    @Override
    public Void visitIdentifier(IdentifierTree tree, Void none) {
        Element named = element();
        if (named instanceof ExecutableElement && !named.getSimpleName().contentEquals("<init>")) {
            Due.is("called by its name alone: " + named, name(named).startsWith("SoarHouse"), true);
        }
        return super.visitIdentifier(tree, none);
    }

    @Override
    public Void visitThrow(ThrowTree tree, Void none) {
        return refuse(tree);
    }

    @Override
    public Void visitTry(TryTree tree, Void none) {
        return refuse(tree);
    }

    @Override
    public Void visitLambdaExpression(LambdaExpressionTree tree, Void none) {
        return refuse(tree);
    }

    @Override
    public Void visitMemberReference(MemberReferenceTree tree, Void none) {
        return refuse(tree);
    }

    @Override
    public Void visitSynchronized(SynchronizedTree tree, Void none) {
        return refuse(tree);
    }

    @Override
    public Void visitAssert(AssertTree tree, Void none) {
        return refuse(tree);
    }

    /** Rule 11: how deep calls go that are no recursion; those that call one another count as one. */
    private void depths() {
        Map<String, Set<String>> reached = new HashMap<>();
        for (String from : calls.keySet()) {
            Set<String> seen = new HashSet<>();
            reach(from, seen);
            reached.put(from, seen);
        }
        Map<String, Integer> known = new HashMap<>();
        for (String from : calls.keySet()) {
            int deep = deep(from, reached, known);
            Due.is("calls from " + from + " go " + deep + " deep", deep <= MOST_DEEP, true);
        }
    }

    private void reach(String from, Set<String> seen) {
        for (String to : calls.getOrDefault(from, Set.of())) {
            if (seen.add(to)) {
                reach(to, seen);
            }
        }
    }

    private int deep(String from, Map<String, Set<String>> reached, Map<String, Integer> known) {
        if (known.containsKey(from)) {
            return known.get(from);
        }
        Set<String> together = new HashSet<>();
        together.add(from);
        for (String other : reached.get(from)) {
            if (reached.get(other).contains(from)) {
                together.add(other);
            }
        }
        int most = 0;
        for (String one : together) {
            for (String to : calls.getOrDefault(one, Set.of())) {
                most = together.contains(to) ? most : Math.max(most, deep(to, reached, known));
            }
        }
        known.put(from, most + 1);
        return most + 1;
    }
}
