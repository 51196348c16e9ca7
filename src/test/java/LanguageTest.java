import com.sun.source.tree.AssertTree;
import com.sun.source.tree.BinaryTree;
import com.sun.source.tree.BlockTree;
import com.sun.source.tree.ClassTree;
import com.sun.source.tree.CompilationUnitTree;
import com.sun.source.tree.LambdaExpressionTree;
import com.sun.source.tree.MemberReferenceTree;
import com.sun.source.tree.MethodInvocationTree;
import com.sun.source.tree.MethodTree;
import com.sun.source.tree.NewClassTree;
import com.sun.source.tree.SynchronizedTree;
import com.sun.source.tree.ThrowTree;
import com.sun.source.tree.Tree;
import com.sun.source.tree.TryTree;
import com.sun.source.tree.VariableTree;
import com.sun.source.util.JavacTask;
import com.sun.source.util.SourcePositions;
import com.sun.source.util.TreePath;
import com.sun.source.util.TreePathScanner;
import com.sun.source.util.Trees;
import java.io.IOException;
import java.util.ArrayList;
import java.util.HashSet;
import java.util.LinkedHashMap;
import java.util.List;
import java.util.Map;
import java.util.Set;
import java.util.TreeMap;
import java.util.TreeSet;
import javax.lang.model.element.Element;
import javax.lang.model.element.Modifier;
import javax.tools.JavaCompiler;
import javax.tools.StandardJavaFileManager;
import javax.tools.ToolProvider;

/** The rules of ../shared/LANGUAGE.md that can be seen in the source of the class, without running it. */
public final class LanguageTest extends TreePathScanner<Void, Void> {
    private static final String SOURCE = "src/main/java/UnifyBench.java";
    private static final int PARAMETERS_MOST = 7;
    private static final int LINES_MOST = 60;
    private static final int DEPTH_MOST = 8;
    private static final int CLASSES_MOST = 12;
    private static final int FIELDS_MOST = 20;
    private static final Map<String, Set<String>> LIBRARY = Map.of(
            "java.lang.String", Set.of("length", "charAt", "isEmpty", "equals", "indexOf", "substring", "toCharArray"),
            "java.lang.Math", Set.of("max", "min", "abs", "floorDiv", "floorMod"),
            "java.lang.System", Set.of("arraycopy"),
            "java.util.Arrays", Set.of("copyOf", "copyOfRange", "fill"));
    private static final Set<String> THROWN = Set.of("IllegalStateException", "IllegalArgumentException",
            "IndexOutOfBoundsException", "ArithmeticException", "UnsupportedOperationException", "NoSuchElementException",
            "RuntimeException");

    private final CompilationUnitTree unit;
    private final Trees trees;
    private final SourcePositions positions;
    private final Map<String, Set<String>> calls = new TreeMap<>();
    private final Map<String, Integer> fields = new LinkedHashMap<>();
    private final Set<String> faceNames = new TreeSet<>();
    private final Set<String> otherNames = new TreeSet<>();

    private LanguageTest(CompilationUnitTree unit, Trees trees) {
        this.unit = unit;
        this.trees = trees;
        this.positions = trees.getSourcePositions();
    }

    public static void main(String[] args) throws IOException {
        JavaCompiler compiler = ToolProvider.getSystemJavaCompiler();
        try (StandardJavaFileManager files = compiler.getStandardFileManager(null, null, null)) {
            JavacTask task = (JavacTask) compiler.getTask(null, files, null, List.of("-proc:none"), null,
                    files.getJavaFileObjects(SOURCE));
            CompilationUnitTree unit = task.parse().iterator().next();
            task.analyze();
            LanguageTest test = new LanguageTest(unit, Trees.instance(task));
            test.scan(unit, null);
            test.wholeFile();
            test.depths();
        }
        Checks.close("LanguageTest");
    }

    private void rule(int number, String what, boolean isKept) {
        Checks.due("rule " + number + ", " + what, true, isKept);
    }

    private String at(Tree tree) {
        return "line " + unit.getLineMap().getLineNumber(positions.getStartPosition(unit, tree));
    }

    private void wholeFile() {
        rule(1, "no package line", unit.getPackage() == null);
        rule(1, "one class outside of all others", unit.getTypeDecls().size() == 1);
        for (String name : otherNames) {
            rule(1, name + " bears no name of the face", !faceNames.contains(name));
        }
        rule(11, fields.size() + " classes", fields.size() <= CLASSES_MOST);
        fields.forEach((name, many) -> rule(11, many + " fields of " + name, many <= FIELDS_MOST));
    }

    private void depths() {
        Map<String, List<String>> longest = new LinkedHashMap<>();
        for (String method : calls.keySet()) {
            List<String> chain = longestFrom(method, new HashSet<>(), longest);
            rule(11, chain.size() + " calls deep: " + chain, chain.size() <= DEPTH_MOST);
        }
        rule(11, "the calls are seen", longest.keySet().stream().anyMatch(method -> method.contains("addCompound")));
    }

    /** The longest chain of calls; one of the library counts, too. */
    private List<String> longestFrom(String method, Set<String> open, Map<String, List<String>> longest) {
        rule(8, method + " does not call itself", !open.contains(method));
        if (longest.containsKey(method) || open.contains(method)) {
            return longest.getOrDefault(method, List.of());
        }
        open.add(method);
        List<String> below = List.of();
        for (String called : calls.getOrDefault(method, Set.of())) {
            List<String> chain = longestFrom(called, open, longest);
            below = chain.size() > below.size() ? chain : below;
        }
        open.remove(method);
        List<String> chain = new ArrayList<>(List.of(method));
        chain.addAll(below);
        longest.put(method, chain);
        return chain;
    }

    /** The method that stands round what is looked at; what fields begin with is called where the object is made. */
    private String caller() {
        String making = ".<init>";
        for (TreePath path = getCurrentPath(); path != null; path = path.getParentPath()) {
            Element element = trees.getElement(path);
            if (path.getLeaf() instanceof MethodTree) {
                return nameOf(element);
            }
            if (path.getLeaf() instanceof VariableTree && element.getModifiers().contains(Modifier.STATIC)) {
                making = ".<clinit>";
            }
            if (path.getLeaf() instanceof ClassTree) {
                return element + making;
            }
        }
        return "";
    }

    private static String nameOf(Element method) {
        return method.getEnclosingElement() + "." + method.getSimpleName();
    }

    private void called(Element method) {
        calls.computeIfAbsent(caller(), key -> new TreeSet<>()).add(nameOf(method));
    }

    private static boolean isOwn(Element element) {
        String owner = element.getEnclosingElement().toString();
        return owner.equals("UnifyBench") || owner.startsWith("UnifyBench.");
    }

    @Override
    public Void visitClass(ClassTree tree, Void none) {
        Element element = trees.getElement(getCurrentPath());
        boolean isFace = tree.getSimpleName().contentEquals("UnifyBench");
        int many = 0;
        for (Tree member : tree.getMembers()) {
            rule(5, at(member) + " no static initialiser", !(member instanceof BlockTree));
            if (member instanceof VariableTree field && !field.getModifiers().getFlags().contains(Modifier.STATIC)) {
                many++;
            }
        }
        fields.put(element.toString(), many);
        rule(1, at(tree) + " the face alone is public", element.getModifiers().contains(Modifier.PUBLIC) == isFace);
        rule(1, at(tree) + " a class inside is static", isFace || element.getModifiers().contains(Modifier.STATIC));
        rule(2, at(tree) + " no local class", isFace || isOwn(element));
        return super.visitClass(tree, none);
    }

    @Override
    public Void visitMethod(MethodTree tree, Void none) {
        Element element = trees.getElement(getCurrentPath());
        String name = tree.getName().toString();
        boolean isFace = element.getModifiers().contains(Modifier.PUBLIC)
                && element.getEnclosingElement().toString().equals("UnifyBench");
        boolean isMaking = name.equals("<init>");
        if (!isMaking && isFace) {
            faceNames.add(name);
        } else if (!isMaking && element.getModifiers().contains(Modifier.PRIVATE)) {
            otherNames.add(name);
        }
        calls.computeIfAbsent(nameOf(element), key -> new TreeSet<>());
        rule(11, name + " takes at most seven parameters", tree.getParameters().size() <= PARAMETERS_MOST);
        rule(11, name + " is short", lines(tree) <= LINES_MOST);
        return super.visitMethod(tree, none);
    }

    private long lines(Tree tree) {
        long end = positions.getEndPosition(unit, tree);
        if (end < 0) {
            return 0;
        }
        return unit.getLineMap().getLineNumber(end) - unit.getLineMap().getLineNumber(positions.getStartPosition(unit, tree)) + 1;
    }

    @Override
    public Void visitVariable(VariableTree tree, Void none) {
        Element element = trees.getElement(getCurrentPath());
        boolean isStatic = element.getModifiers().contains(Modifier.STATIC);
        rule(5, at(tree) + " a static field is final", !isStatic || element.getModifiers().contains(Modifier.FINAL));
        String type = element.asType().toString().replace("[]", "");
        rule(3, at(tree) + " type " + type, type.startsWith("UnifyBench") || type.equals("java.lang.String")
                || Set.of("int", "long", "short", "byte", "char", "boolean").contains(type));
        return super.visitVariable(tree, none);
    }

    @Override
    public Void visitMethodInvocation(MethodInvocationTree tree, Void none) {
        Element method = trees.getElement(new TreePath(getCurrentPath(), tree.getMethodSelect()));
        String owner = method.getEnclosingElement().toString();
        String name = method.getSimpleName().toString();
        boolean isOfSuper = name.equals("<init>");
        if (!isOfSuper) {
            called(method);
            rule(4, at(tree) + " calls " + owner + "." + name, isOwn(method) || LIBRARY.getOrDefault(owner, Set.of()).contains(name));
        }
        return super.visitMethodInvocation(tree, none);
    }

    @Override
    public Void visitNewClass(NewClassTree tree, Void none) {
        Element made = trees.getElement(getCurrentPath());
        called(made);
        boolean isThrown = getCurrentPath().getParentPath().getLeaf() instanceof ThrowTree;
        rule(4, at(tree) + " makes " + tree.getIdentifier(), isThrown || isOwn(made));
        return super.visitNewClass(tree, none);
    }

    @Override
    public Void visitThrow(ThrowTree tree, Void none) {
        boolean isNew = tree.getExpression() instanceof NewClassTree;
        rule(6, at(tree) + " throws a new exception", isNew);
        if (tree.getExpression() instanceof NewClassTree made) {
            rule(6, at(tree) + " throws one of the listed", THROWN.contains(made.getIdentifier().toString()));
        }
        rule(6, at(tree) + " stands in no constructor", !caller().endsWith("<init>"));
        return super.visitThrow(tree, none);
    }

    @Override
    public Void visitBinary(BinaryTree tree, Void none) {
        String type = String.valueOf(trees.getTypeMirror(getCurrentPath()));
        rule(10, at(tree) + " joins no texts", !type.equals("java.lang.String"));
        return super.visitBinary(tree, none);
    }

    @Override
    public Void visitLambdaExpression(LambdaExpressionTree tree, Void none) {
        rule(2, at(tree) + " is no lambda", false);
        return super.visitLambdaExpression(tree, none);
    }

    @Override
    public Void visitMemberReference(MemberReferenceTree tree, Void none) {
        rule(2, at(tree) + " is no method reference", false);
        return super.visitMemberReference(tree, none);
    }

    @Override
    public Void visitTry(TryTree tree, Void none) {
        rule(6, at(tree) + " has no finally and no resources", tree.getFinallyBlock() == null && tree.getResources().isEmpty());
        return super.visitTry(tree, none);
    }

    @Override
    public Void visitSynchronized(SynchronizedTree tree, Void none) {
        rule(6, at(tree) + " is not synchronized", false);
        return super.visitSynchronized(tree, none);
    }

    @Override
    public Void visitAssert(AssertTree tree, Void none) {
        rule(6, at(tree) + " asserts nothing", false);
        return super.visitAssert(tree, none);
    }
}
