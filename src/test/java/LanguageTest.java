import com.sun.source.tree.ArrayAccessTree;
import com.sun.source.tree.BinaryTree;
import com.sun.source.tree.ClassTree;
import com.sun.source.tree.CompilationUnitTree;
import com.sun.source.tree.ForLoopTree;
import com.sun.source.tree.LiteralTree;
import com.sun.source.tree.MethodInvocationTree;
import com.sun.source.tree.MethodTree;
import com.sun.source.tree.NewClassTree;
import com.sun.source.tree.ThrowTree;
import com.sun.source.tree.Tree;
import com.sun.source.tree.VariableTree;
import com.sun.source.util.JavacTask;
import com.sun.source.util.TreePathScanner;
import com.sun.source.util.Trees;
import java.io.IOException;
import java.nio.file.Path;
import java.util.ArrayList;
import java.util.List;
import java.util.Map;
import java.util.Set;
import java.util.TreeMap;
import java.util.TreeSet;
import javax.lang.model.element.Element;
import javax.lang.model.element.ElementKind;
import javax.lang.model.element.Modifier;
import javax.tools.JavaCompiler;
import javax.tools.StandardJavaFileManager;
import javax.tools.ToolProvider;

/**
 * Rules of ../shared/LANGUAGE.md that can be seen only in the program as the compiler reads it:
 * who calls whom, how large methods and classes are, and that indices and divisors are looked at.
 */
public final class LanguageTest extends TreePathScanner<Void, Void> {
    private static final int MOST_DEEP = 8;
    private static final int MOST_PARAMETERS = 7;
    private static final int MOST_LINES = 60;
    private static final int MOST_CLASSES = 12;
    private static final int MOST_FIELDS = 20;
    private static final Set<String> LIBRARY = Set.of("java.lang.Long.compare");

    private final Checks checks = new Checks();
    private final Map<String, Set<String>> calls = new TreeMap<>();
    private final Set<String> face = new TreeSet<>();
    private Trees trees;
    private String inside = "";
    private String words = "";
    private int classes;
    private int guards;

    public static void main(String[] args) throws IOException {
        LanguageTest test = new LanguageTest();
        test.checks.about("the language");
        test.read(Path.of(args.length > 0 ? args[0] : "src/main/java/Tableaufloor.java"));
        test.checkChains();
        test.checks.isTrue("few classes: " + test.classes, test.classes <= MOST_CLASSES);
        // A reader that found nothing would prove nothing.
        test.checks.isTrue("the face is read", test.face.size() == 36);
        test.checks.isTrue("indices and divisors are read", test.guards > 30);
        test.checks.end("LanguageTest");
    }

    private void read(Path source) throws IOException {
        JavaCompiler compiler = ToolProvider.getSystemJavaCompiler();
        try (StandardJavaFileManager files = compiler.getStandardFileManager(null, null, null)) {
            JavacTask task = (JavacTask) compiler.getTask(null, files, null,
                    List.of("-proc:none"), null, files.getJavaFileObjects(source));
            trees = Trees.instance(task);
            List<CompilationUnitTree> units = new ArrayList<>();
            task.parse().forEach(units::add);
            task.analyze();
            scan(units, null);
        }
    }

    /** Rules 8 and 11: no method comes to itself, and calls go at most eight deep. */
    private void checkChains() {
        for (String method : face) {
            List<String> chain = longestChain(method, new ArrayList<>());
            checks.isTrue("at most " + MOST_DEEP + " deep: " + chain, chain.size() <= MOST_DEEP);
        }
    }

    private List<String> longestChain(String method, List<String> open) {
        checks.isTrue(method + " does not come to itself", !open.contains(method));
        List<String> longest = new ArrayList<>();
        if (!open.contains(method)) {
            open.add(method);
            for (String next : calls.getOrDefault(method, Set.of())) {
                List<String> chain = longestChain(next, open);
                longest = chain.size() > longest.size() ? chain : longest;
            }
            open.remove(method);
        }
        longest.add(0, method);
        return longest;
    }

    @Override
    public Void visitClass(ClassTree tree, Void none) {
        classes++;
        int fields = 0;
        String before = inside;
        inside = nameOf(trees.getElement(getCurrentPath())) + " outside of methods";
        for (Tree member : tree.getMembers()) {
            checks.isTrue("no block: " + member, member.getKind() != Tree.Kind.BLOCK);
            if (member instanceof VariableTree field) {
                boolean isStatic = field.getModifiers().getFlags().contains(Modifier.STATIC);
                boolean isFinal = field.getModifiers().getFlags().contains(Modifier.FINAL);
                checks.isTrue("a static field is a constant: " + field, !isStatic || (isFinal
                        && field.getType().toString().matches("int|long|boolean|char|String")));
                fields += isStatic ? 0 : 1;
            }
        }
        checks.isTrue("few fields: " + tree.getSimpleName(), fields <= MOST_FIELDS);
        super.visitClass(tree, none);
        inside = before;
        return null;
    }

    @Override
    public Void visitMethod(MethodTree tree, Void none) {
        String before = inside;
        inside = nameOf(trees.getElement(getCurrentPath()));
        words = tree.toString();
        if (tree.getModifiers().getFlags().contains(Modifier.PUBLIC)) {
            face.add(inside);
        }
        checks.isTrue("few parameters: " + inside,
                tree.getParameters().size() <= MOST_PARAMETERS);
        checks.isTrue("short: " + inside, words.lines().count() <= MOST_LINES);
        super.visitMethod(tree, none);
        inside = before;
        return null;
    }

    @Override
    public Void visitMethodInvocation(MethodInvocationTree tree, Void none) {
        noteCall(trees.getElement(getCurrentPath()));
        return super.visitMethodInvocation(tree, none);
    }

    @Override
    public Void visitNewClass(NewClassTree tree, Void none) {
        Element made = trees.getElement(getCurrentPath());
        if (isOwn(made)) {
            noteCall(made);
        } else {
            checks.isTrue("only thrown: " + tree,
                    getCurrentPath().getParentPath().getLeaf() instanceof ThrowTree);
        }
        return super.visitNewClass(tree, none);
    }

    /** Rule 6: no constructor throws. */
    @Override
    public Void visitThrow(ThrowTree tree, Void none) {
        checks.isTrue("throws outside of constructors: " + inside, !inside.contains("<init>"));
        return super.visitThrow(tree, none);
    }

    /** Rule 7: an index is looked at before it is used. */
    @Override
    public Void visitArrayAccess(ArrayAccessTree tree, Void none) {
        guards++;
        checks.isTrue(inside + " looks at the length for " + tree,
                words.contains(tree.getExpression() + ".length"));
        return super.visitArrayAccess(tree, none);
    }

    /** Rule 7: a divisor is looked at before it divides. */
    @Override
    public Void visitBinary(BinaryTree tree, Void none) {
        boolean divides = tree.getKind() == Tree.Kind.DIVIDE
                || tree.getKind() == Tree.Kind.REMAINDER;
        boolean isOfFloats = tree.toString().startsWith("(float)");
        if (divides && !isOfFloats && !(tree.getRightOperand() instanceof LiteralTree)) {
            guards++;
            checks.isTrue(inside + " looks at the divisor of " + tree,
                    words.contains(tree.getRightOperand() + " != 0")
                    || words.contains(tree.getRightOperand() + " > 1"));
        }
        return super.visitBinary(tree, none);
    }

    /** Rule 9: a loop counts one up to a bound. */
    @Override
    public Void visitForLoop(ForLoopTree tree, Void none) {
        String loop = tree.toString().lines().findFirst().orElse("");
        checks.isTrue("counts: " + loop,
                loop.matches("for \\(int (\\w+) = [^;]*; \\1 <=? [^;]*; \\1\\+\\+\\) \\{"));
        return super.visitForLoop(tree, none);
    }

    private void noteCall(Element called) {
        String name = nameOf(called);
        if (!isOwn(called)) {
            boolean isOfObject = called.getKind() == ElementKind.CONSTRUCTOR;
            checks.isTrue(name + " stands in the rules", isOfObject || LIBRARY.contains(name));
            return;
        }
        calls.computeIfAbsent(inside, key -> new TreeSet<>()).add(name);
    }

    private static boolean isOwn(Element element) {
        return element.getEnclosingElement().toString().startsWith("Tableaufloor");
    }

    private static String nameOf(Element element) {
        Element around = element.getEnclosingElement();
        return (around == null || around.toString().isEmpty() ? "" : around + ".")
                + (element.getKind() == ElementKind.CONSTRUCTOR
                ? "<init>" : element.getSimpleName().toString());
    }
}
