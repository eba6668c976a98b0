import com.sun.source.tree.AssertTree;
import com.sun.source.tree.BlockTree;
import com.sun.source.tree.ClassTree;
import com.sun.source.tree.CompilationUnitTree;
import com.sun.source.tree.LambdaExpressionTree;
import com.sun.source.tree.MemberReferenceTree;
import com.sun.source.tree.MethodInvocationTree;
import com.sun.source.tree.MethodTree;
import com.sun.source.tree.NewClassTree;
import com.sun.source.tree.SynchronizedTree;
import com.sun.source.tree.ThrowTree;
import com.sun.source.tree.Tree;
import com.sun.source.tree.TryTree;
import com.sun.source.tree.VariableTree;
import com.sun.source.util.JavacTask;
import com.sun.source.util.SourcePositions;
import com.sun.source.util.TreePathScanner;
import com.sun.source.util.Trees;
import java.io.IOException;
import java.nio.file.Path;
import java.util.ArrayList;
import java.util.HashMap;
import java.util.List;
import java.util.Map;
import java.util.Set;
import java.util.TreeSet;
import java.util.regex.Pattern;
import javax.lang.model.element.Element;
import javax.lang.model.element.ElementKind;
import javax.lang.model.element.Modifier;
import javax.lang.model.element.TypeElement;
import javax.tools.JavaCompiler;
import javax.tools.StandardJavaFileManager;
import javax.tools.ToolProvider;

/** Those rules of LANGUAGE.md that show in the program's tree: what it is made of and what calls what. */
public final class LanguageTest extends TreePathScanner<Void, Void> {
    private static final Due DUE = new Due("LanguageTest");

    private static final int MOST_LINES = 60;
    private static final int MOST_DEEP = 8;
    private static final int MOST_PARAMETERS = 7;
    private static final int MOST_CLASSES = 12;

    /** The types of rule 3 as far as the program needs them; its own classes come to these. */
    private static final Pattern TYPES = Pattern.compile("(int|long|boolean)(\\[\\])?|CertificateVault\\.\\w+(\\[\\])?");
    private static final Pattern CONSTANTS = Pattern.compile("int|long|boolean|char|java\\.lang\\.String|(int|long|char|byte)\\[\\]");
    private static final Set<String> LIBRARY = Set.of("java.lang.System.arraycopy", "java.lang.Object.<init>");

    private final Trees trees;
    private final SourcePositions positions;
    private final CompilationUnitTree unit;
    private final Map<String, Set<String>> calls = new HashMap<>();
    private int classes = 0;
    private String method = "";

    private LanguageTest(Trees trees, CompilationUnitTree unit) {
        this.trees = trees;
        this.positions = trees.getSourcePositions();
        this.unit = unit;
    }

    public static void main(String[] args) throws IOException {
        JavaCompiler compiler = ToolProvider.getSystemJavaCompiler();
        try (StandardJavaFileManager files = compiler.getStandardFileManager(null, null, null)) {
            var sources = files.getJavaFileObjects(Path.of("src/main/java/CertificateVault.java"));
            JavacTask task = (JavacTask) compiler.getTask(null, files, null, List.of("-proc:none"), null, sources);
            CompilationUnitTree unit = task.parse().iterator().next();
            task.analyze();
            LanguageTest test = new LanguageTest(Trees.instance(task), unit);
            test.scan(unit, null);
            test.afterAll();
        }
        DUE.end();
    }

    /** Rules 8 and 11: "calls that are no recursion go at most eight deep", "at most some twelve classes" */
    private void afterAll() {
        DUE.isTrue("no package line", unit.getPackageName() == null);
        DUE.is("classes of the file on its outside", unit.getTypeDecls().size(), 1);
        DUE.isTrue("some twelve classes at most: " + classes, classes <= MOST_CLASSES);
        Set<String> recursive = new TreeSet<>();
        for (String name : calls.keySet()) {
            if (reached(name).contains(name)) {
                recursive.add(name);
            }
        }
        DUE.isTrue("only the search calls itself: " + recursive, recursive.equals(
            Set.of("CertificateVault.Search.goOn", "CertificateVault.Search.goThrough")));
        for (String name : calls.keySet()) {
            List<String> path = longest(name, new ArrayList<>());
            DUE.isTrue("at most eight deep: " + path, path.size() <= MOST_DEEP);
        }
    }

    private Set<String> reached(String name) {
        Set<String> reached = new TreeSet<>();
        List<String> left = new ArrayList<>(calls.getOrDefault(name, Set.of()));
        while (!left.isEmpty()) {
            String next = left.remove(left.size() - 1);
            if (reached.add(next)) {
                left.addAll(calls.getOrDefault(next, Set.of()));
            }
        }
        return reached;
    }

    /** The longest way down, on which no method stands twice: a recursion counts once. */
    private List<String> longest(String name, List<String> above) {
        List<String> here = new ArrayList<>(above);
        here.add(name);
        List<String> best = here;
        for (String next : calls.getOrDefault(name, Set.of())) {
            if (!here.contains(next)) {
                List<String> path = longest(next, here);
                best = path.size() > best.size() ? path : best;
            }
        }
        return best;
    }

    private String nameOf(Element element) {
        return ((TypeElement) element.getEnclosingElement()).getQualifiedName() + "." + element.getSimpleName();
    }

    private void bar(Tree tree, String what) {
        long line = unit.getLineMap().getLineNumber(positions.getStartPosition(unit, tree));
        DUE.isTrue(what + " in line " + line, false);
    }

    private void noteCall(Tree tree) {
        Element called = trees.getElement(getCurrentPath());
        String name = nameOf(called);
        boolean own = name.startsWith("CertificateVault.");
        DUE.isTrue("rule 4: " + name + " is of the program or of the library that is allowed",
            own || LIBRARY.contains(name));
        if (own) {
            calls.computeIfAbsent(method, key -> new TreeSet<>()).add(name);
        }
    }

    /** Rule 2: "Classes inside: static nested classes ... and abstract classes" */
    @Override
    public Void visitClass(ClassTree tree, Void none) {
        classes++;
        Element element = trees.getElement(getCurrentPath());
        boolean outside = element.getEnclosingElement().getKind() == ElementKind.PACKAGE;
        DUE.isTrue("rule 1: " + element + " is the face, or private and static", outside
            || element.getModifiers().contains(Modifier.PRIVATE) && element.getModifiers().contains(Modifier.STATIC));
        DUE.isTrue("rule 2: " + element + " is no class of a method", element.getKind() == ElementKind.CLASS);
        DUE.isTrue("rule 2: " + element + " is final or abstract",
            element.getModifiers().contains(Modifier.FINAL) || element.getModifiers().contains(Modifier.ABSTRACT));
        for (Tree member : tree.getMembers()) {
            if (member instanceof BlockTree) {
                bar(member, "rule 5: a block that initialises");
            }
        }
        return super.visitClass(tree, none);
    }

    /** Rule 11: "A method takes at most seven parameters. Methods stay short (some sixty lines)" */
    @Override
    public Void visitMethod(MethodTree tree, Void none) {
        method = nameOf(trees.getElement(getCurrentPath()));
        calls.computeIfAbsent(method, key -> new TreeSet<>());
        long start = positions.getStartPosition(unit, tree);
        long end = positions.getEndPosition(unit, tree);
        if (end > start) {
            long lines = unit.getLineMap().getLineNumber(end) - unit.getLineMap().getLineNumber(start) + 1;
            DUE.isTrue("rule 11: " + method + " is short: " + lines, lines <= MOST_LINES);
        }
        DUE.isTrue("rule 11: " + method + " takes seven at most", tree.getParameters().size() <= MOST_PARAMETERS);
        DUE.isTrue("rule 6: " + method + " throws nothing", tree.getThrows().isEmpty());
        return super.visitMethod(tree, none);
    }

    /** Rules 3 and 5: the types; "Static fields are final: constants ..., arrays ... written out in their initialiser" */
    @Override
    public Void visitVariable(VariableTree tree, Void none) {
        Element element = trees.getElement(getCurrentPath());
        String type = element.asType().toString();
        DUE.isTrue("rule 3: " + element + " is a " + type, TYPES.matcher(type).matches());
        if (element.getKind() == ElementKind.FIELD && element.getModifiers().contains(Modifier.STATIC)) {
            DUE.isTrue("rule 5: " + element + " is a final constant", tree.getInitializer() != null
                && element.getModifiers().contains(Modifier.FINAL) && CONSTANTS.matcher(type).matches());
        }
        return super.visitVariable(tree, none);
    }

    @Override
    public Void visitMethodInvocation(MethodInvocationTree tree, Void none) {
        noteCall(tree);
        return super.visitMethodInvocation(tree, none);
    }

    @Override
    public Void visitNewClass(NewClassTree tree, Void none) {
        noteCall(tree);
        if (tree.getClassBody() != null) {
            bar(tree, "rule 2: an anonymous class");
        }
        return super.visitNewClass(tree, none);
    }

    @Override
    public Void visitLambdaExpression(LambdaExpressionTree tree, Void none) {
        bar(tree, "rule 2: a lambda");
        return null;
    }

    @Override
    public Void visitMemberReference(MemberReferenceTree tree, Void none) {
        bar(tree, "rule 2: a method reference");
        return null;
    }

    /** Rule 6: the document says of no call that it throws, so nothing is thrown and nothing caught. */
    @Override
    public Void visitThrow(ThrowTree tree, Void none) {
        bar(tree, "rule 6: a throw");
        return null;
    }

    @Override
    public Void visitTry(TryTree tree, Void none) {
        bar(tree, "rule 6: a try");
        return null;
    }

    @Override
    public Void visitAssert(AssertTree tree, Void none) {
        bar(tree, "rule 6: an assert");
        return null;
    }

    @Override
    public Void visitSynchronized(SynchronizedTree tree, Void none) {
        bar(tree, "rule 6: a synchronized");
        return null;
    }
}
