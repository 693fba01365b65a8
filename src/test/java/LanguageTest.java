import com.sun.source.tree.ArrayAccessTree;
import com.sun.source.tree.BinaryTree;
import com.sun.source.tree.BlockTree;
import com.sun.source.tree.ClassTree;
import com.sun.source.tree.CompilationUnitTree;
import com.sun.source.tree.DoWhileLoopTree;
import com.sun.source.tree.ForLoopTree;
import com.sun.source.tree.LambdaExpressionTree;
import com.sun.source.tree.LiteralTree;
import com.sun.source.tree.MemberReferenceTree;
import com.sun.source.tree.MethodInvocationTree;
import com.sun.source.tree.MethodTree;
import com.sun.source.tree.NewClassTree;
import com.sun.source.tree.ThrowTree;
import com.sun.source.tree.Tree;
import com.sun.source.tree.TryTree;
import com.sun.source.tree.VariableTree;
import com.sun.source.tree.WhileLoopTree;
import com.sun.source.util.JavacTask;
import com.sun.source.util.TreePathScanner;
import com.sun.source.util.Trees;
import java.io.IOException;
import java.nio.file.Path;
import java.util.ArrayList;
import java.util.List;
import java.util.Map;
import java.util.Set;
import java.util.TreeMap;
import java.util.TreeSet;
import java.util.regex.Pattern;
import javax.lang.model.element.Element;
import javax.lang.model.element.Modifier;
import javax.lang.model.type.TypeMirror;
import javax.tools.JavaCompiler;
import javax.tools.StandardJavaFileManager;
import javax.tools.ToolProvider;

/**
 * The rules of LANGUAGE.md, looked at in the tree that the compiler makes of the class: which parts of Java and of the
 * library it uses, how deep its calls go, and whether an index or a divisor is compared with a bound at all. That a
 * comparison is the right one is not shown here.
 */
public final class LanguageTest extends TreePathScanner<Void, Void> {
    private static final Kit KIT = new Kit("LanguageTest");
    private static final Path SOURCE = Path.of("src/main/java/CloudMarket.java");
    private static final int DEEPEST = 8;
    private static final Set<String> LIBRARY = Set.of("java.lang.String.length", "java.lang.String.charAt",
        "java.lang.Integer.bitCount", "java.lang.Math.max", "java.lang.Math.min", "java.lang.System.arraycopy",
        "java.util.Arrays.fill", "java.lang.Object.<init>");
    private static final Set<String> THROWN = Set.of("IllegalStateException", "IllegalArgumentException",
        "IndexOutOfBoundsException", "ArithmeticException", "UnsupportedOperationException", "NoSuchElementException",
        "RuntimeException");
    private static final Pattern TYPES = Pattern.compile("(int|long|short|byte|char|boolean|double|float"
        + "|CloudMarket(\\.\\w+)?)(\\[\\])?|java\\.lang\\.String|void");

    /** The own methods that each own method calls, and those that are private. */
    private final Map<String, Set<String>> calls = new TreeMap<>();
    private final Set<String> hidden = new TreeSet<>();
    private final Trees trees;
    private final CompilationUnitTree unit;
    private int classes = 0;
    private String method = "";
    private String body = "";

    private LanguageTest(Trees trees, CompilationUnitTree unit) {
        this.trees = trees;
        this.unit = unit;
    }

    public static void main(String[] args) throws IOException {
        JavaCompiler compiler = ToolProvider.getSystemJavaCompiler();
        try (StandardJavaFileManager files = compiler.getStandardFileManager(null, null, null)) {
            JavacTask task = (JavacTask) compiler.getTask(null, files, null, List.of("-proc:none"), null,
                files.getJavaFileObjects(SOURCE));
            List<CompilationUnitTree> units = new ArrayList<>();
            task.parse().forEach(units::add);
            task.analyze();
            KIT.due("one file", units.size(), 1);
            LanguageTest look = new LanguageTest(Trees.instance(task), units.get(0));
            look.scan(units.get(0), null);
            look.depths();
        }
        KIT.end();
    }

    // ---- calls inside calls

    private void depths() {
        KIT.due("rule 11: at most some twelve classes", classes <= 12, true);
        for (String from : calls.keySet()) {
            List<String> way = deepest(from, new ArrayList<>());
            KIT.due("rule 11: calls at most eight deep, not " + way, way.size() <= DEEPEST, true);
            boolean again = reaches(from, from, new TreeSet<>());
            KIT.due("rule 8: " + from + " calls itself and is not private", again && !hidden.contains(from), false);
        }
    }

    /** The longest chain of calls; what calls itself is counted once. */
    private List<String> deepest(String from, List<String> open) {
        List<String> best = new ArrayList<>();
        open.add(from);
        for (String to : calls.getOrDefault(from, Set.of())) {
            if (!open.contains(to)) {
                List<String> way = deepest(to, open);
                best = way.size() > best.size() ? way : best;
            }
        }
        open.remove(open.size() - 1);
        best.add(0, from);
        return best;
    }

    private boolean reaches(String from, String to, Set<String> seen) {
        for (String next : calls.getOrDefault(from, Set.of())) {
            if (next.equals(to) || seen.add(next) && reaches(next, to, seen)) {
                return true;
            }
        }
        return false;
    }

    private static String nameOf(Element called) {
        return called.getEnclosingElement() + "." + called.getSimpleName();
    }

    private void called(Element called) {
        String name = nameOf(called);
        boolean own = name.startsWith("CloudMarket.");
        if (own) {
            calls.computeIfAbsent(method, key -> new TreeSet<>()).add(name);
        }
        KIT.due("rule 4: " + method + " calls " + name, own || LIBRARY.contains(name), true);
    }

    // ---- what the tree holds

    private Element here() {
        return trees.getElement(getCurrentPath());
    }

    private void none(int rule, String what) {
        KIT.due("rule " + rule + ": " + what + " in " + method, true, false);
    }

    private void allowed(Tree tree, String what) {
        TypeMirror type = tree == null ? null : trees.getTypeMirror(trees.getPath(unit, tree));
        KIT.due("rule 3: type " + type + " of " + what, type == null || TYPES.matcher(type.toString()).matches(), true);
    }

    @Override
    public Void visitClass(ClassTree tree, Void nothing) {
        classes++;
        int fields = 0;
        for (Tree member : tree.getMembers()) {
            boolean field = member instanceof VariableTree v && !v.getModifiers().getFlags().contains(Modifier.STATIC);
            fields += field ? 1 : 0;
            KIT.due("rule 5: an initialiser block in " + tree.getSimpleName(), member instanceof BlockTree, false);
        }
        KIT.due("rule 11: some twenty fields in " + tree.getSimpleName(), fields <= 20, true);
        boolean inside = getCurrentPath().getParentPath().getLeaf() instanceof ClassTree;
        KIT.due("rule 2: " + tree.getSimpleName() + " stands in the file or in a class", inside || classes == 1, true);
        return super.visitClass(tree, nothing);
    }

    @Override
    public Void visitMethod(MethodTree tree, Void nothing) {
        Element self = here();
        method = nameOf(self);
        body = String.valueOf(tree.getBody());
        calls.computeIfAbsent(method, key -> new TreeSet<>());
        if (self.getModifiers().contains(Modifier.PRIVATE)) {
            hidden.add(method);
        }
        KIT.due("rule 11: parameters of " + method, tree.getParameters().size() <= 7, true);
        allowed(tree.getReturnType(), method);
        super.visitMethod(tree, nothing);
        method = "a field";
        body = "";
        return null;
    }

    @Override
    public Void visitVariable(VariableTree tree, Void nothing) {
        allowed(tree.getType(), method + " " + tree.getName());
        Set<Modifier> flags = tree.getModifiers().getFlags();
        boolean open = flags.contains(Modifier.STATIC) && !flags.contains(Modifier.FINAL);
        KIT.due("rule 5: a static field that is not final, " + tree.getName(), open, false);
        return super.visitVariable(tree, nothing);
    }

    @Override
    public Void visitMethodInvocation(MethodInvocationTree tree, Void nothing) {
        called(here());
        return super.visitMethodInvocation(tree, nothing);
    }

    @Override
    public Void visitNewClass(NewClassTree tree, Void nothing) {
        KIT.due("rule 2: a class without a name in " + method, tree.getClassBody() != null, false);
        if (!(getCurrentPath().getParentPath().getLeaf() instanceof ThrowTree)) {
            called(here());
        }
        return super.visitNewClass(tree, nothing);
    }

    @Override
    public Void visitThrow(ThrowTree tree, Void nothing) {
        boolean good = tree.getExpression() instanceof NewClassTree made
            && THROWN.contains(made.getIdentifier().toString())
            && made.getArguments().stream().allMatch(a -> a.getKind() == Tree.Kind.STRING_LITERAL);
        KIT.due("rule 6: " + tree, good, true);
        KIT.due("rule 6: a throw in the constructor " + method, method.endsWith("<init>"), false);
        return super.visitThrow(tree, nothing);
    }

    @Override
    public Void visitTry(TryTree tree, Void nothing) {
        none(6, "try, which the class does without,");
        return super.visitTry(tree, nothing);
    }

    @Override
    public Void visitLambdaExpression(LambdaExpressionTree tree, Void nothing) {
        none(2, "a lambda");
        return super.visitLambdaExpression(tree, nothing);
    }

    @Override
    public Void visitMemberReference(MemberReferenceTree tree, Void nothing) {
        none(2, "a method reference");
        return super.visitMemberReference(tree, nothing);
    }

    // ---- ends of loops, indices and divisors

    /** One part of the condition compares a counter that the loop steps. */
    private void bounded(Tree loop, Tree condition) {
        boolean counts = false;
        for (String part : String.valueOf(condition).replaceAll("[()]", " ").split("&&")) {
            String counter = part.trim().replaceFirst("^(\\w+) (<|>|<=|>=) .*$", "$1");
            counts |= counter.matches("[a-z]\\w*") && !counter.equals(part.trim())
                && loop.toString().matches("(?s).*\\b" + counter + "(\\+\\+|--| -= ).*");
        }
        KIT.due("rule 9: the loop of " + condition + " in " + method + " counts up to a bound", counts, true);
    }

    @Override
    public Void visitForLoop(ForLoopTree tree, Void nothing) {
        bounded(tree, tree.getCondition());
        return super.visitForLoop(tree, nothing);
    }

    @Override
    public Void visitWhileLoop(WhileLoopTree tree, Void nothing) {
        bounded(tree, tree.getCondition());
        return super.visitWhileLoop(tree, nothing);
    }

    @Override
    public Void visitDoWhileLoop(DoWhileLoopTree tree, Void nothing) {
        bounded(tree, tree.getCondition());
        return super.visitDoWhileLoop(tree, nothing);
    }

    @Override
    public Void visitArrayAccess(ArrayAccessTree tree, Void nothing) {
        String index = tree.getIndex().toString().replaceFirst(" - \\d+$", "");
        String length = tree.getExpression() + ".length";
        boolean compared = body.contains(index + " < " + length) || body.contains(index + " >= " + length)
            || body.contains(index + " <= " + length);
        boolean first = tree.getIndex() instanceof LiteralTree;
        KIT.due("rule 7: " + tree + " in " + method + " is compared with the length", first || compared, true);
        return super.visitArrayAccess(tree, nothing);
    }

    @Override
    public Void visitBinary(BinaryTree tree, Void nothing) {
        boolean divides = tree.getKind() == Tree.Kind.DIVIDE || tree.getKind() == Tree.Kind.REMAINDER;
        if (divides && !(tree.getRightOperand() instanceof LiteralTree)) {
            String by = tree.getRightOperand().toString().replaceFirst("^\\(\\w+\\)", "");
            boolean compared = body.contains(by + " == 0") || body.contains(by + " > 0") || body.contains(by + " <= 0");
            KIT.due("rule 7: the divisor of " + tree + " in " + method + " is compared with 0", compared, true);
        }
        return super.visitBinary(tree, nothing);
    }
}
