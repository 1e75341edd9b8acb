import com.sun.source.tree.ClassTree;
import com.sun.source.tree.CompilationUnitTree;
import com.sun.source.tree.ForLoopTree;
import com.sun.source.tree.MethodInvocationTree;
import com.sun.source.tree.MethodTree;
import com.sun.source.tree.NewArrayTree;
import com.sun.source.tree.NewClassTree;
import com.sun.source.tree.Tree;
import com.sun.source.tree.VariableTree;
import com.sun.source.util.JavacTask;
import com.sun.source.util.TreePathScanner;
import com.sun.source.util.Trees;
import java.io.IOException;
import java.nio.file.Path;
import java.util.ArrayList;
import java.util.Collection;
import java.util.HashMap;
import java.util.LinkedHashMap;
import java.util.LinkedHashSet;
import java.util.List;
import java.util.Map;
import java.util.Set;
import java.util.TreeSet;
import javax.lang.model.element.Element;
import javax.lang.model.element.Modifier;
import javax.tools.JavaCompiler;
import javax.tools.StandardJavaFileManager;
import javax.tools.ToolProvider;

/** The rules of LANGUAGE.md that javac's own trees of the class tell: what it calls, how deep, what it makes. */
public final class LanguageTest {
    private static final Path SOURCE = Path.of("src/main/java/DogDecrees.java");
    private static final Map<String, Set<String>> LIBRARY = Map.of(
            "java.lang.String", Set.of("length", "charAt", "isEmpty", "equals", "indexOf", "substring", "toCharArray"),
            "java.lang.System", Set.of("arraycopy"),
            "java.util.Arrays", Set.of("fill", "copyOf", "copyOfRange"),
            "java.lang.Math", Set.of("max", "min", "abs", "floorDiv", "floorMod"),
            "java.lang.Integer", Set.of("compare", "max", "min", "bitCount"),
            "java.lang.Long", Set.of("compare", "max", "min", "bitCount"),
            "java.lang.Object", Set.of("<init>"));
    private static final Set<Tree.Kind> REFUSED = Set.of(Tree.Kind.LAMBDA_EXPRESSION, Tree.Kind.MEMBER_REFERENCE,
            Tree.Kind.THROW, Tree.Kind.TRY, Tree.Kind.CATCH, Tree.Kind.SYNCHRONIZED, Tree.Kind.ASSERT);
    private static final int DEEP = 8;
    private static final int LINES = 60;
    private static final int LEVELS = 300;

    /** Whom each method calls, of the class's own; filled by the walk through the trees. */
    private static final Map<Element, Set<Element>> CALLS = new LinkedHashMap<>();

    public static void main(String[] args) throws IOException {
        JavaCompiler compiler = ToolProvider.getSystemJavaCompiler();
        try (StandardJavaFileManager files = compiler.getStandardFileManager(null, null, null)) {
            JavacTask task = (JavacTask) compiler.getTask(null, files, null, List.of("-proc:none"), null,
                    files.getJavaFileObjects(SOURCE));
            Iterable<? extends CompilationUnitTree> units = task.parse();
            task.analyze();
            for (CompilationUnitTree unit : units) {
                new Walk(unit, Trees.instance(task)).scan(unit, null);
            }
        }
        Check.due("methods were found", CALLS.size() > 100, true);
        deep();
        Check.end("LanguageTest");
    }

    private static final class Walk extends TreePathScanner<Void, Void> {
        private final CompilationUnitTree unit;
        private final Trees trees;
        private Element method = null;

        Walk(CompilationUnitTree unit, Trees trees) {
            this.unit = unit;
            this.trees = trees;
        }

        private long line(Tree tree) {
            return unit.getLineMap().getLineNumber(trees.getSourcePositions().getStartPosition(unit, tree));
        }

        private String at(Tree tree) {
            return " at line " + line(tree);
        }

        @Override
        public Void scan(Tree tree, Void none) {
            if (tree != null) {
                Check.due("rules 2, 6: " + tree.getKind(), REFUSED.contains(tree.getKind()), false);
            }
            return super.scan(tree, none);
        }

        @Override
        public Void visitClass(ClassTree tree, Void none) {
            Element element = trees.getElement(getCurrentPath());
            boolean outer = element.getSimpleName().contentEquals("DogDecrees");
            boolean inside = element.getModifiers().contains(Modifier.STATIC)
                    && element.getEnclosingElement().getSimpleName().contentEquals("DogDecrees");
            Check.due("rule 2: a class that is neither the face nor static in it" + at(tree), outer || inside, true);
            return super.visitClass(tree, none);
        }

        @Override
        public Void visitMethod(MethodTree tree, Void none) {
            Element before = method;
            method = trees.getElement(getCurrentPath());
            CALLS.putIfAbsent(method, new LinkedHashSet<>());
            long end = unit.getLineMap().getLineNumber(trees.getSourcePositions().getEndPosition(unit, tree));
            Check.due("rule 11: lines of " + method, end - line(tree) < LINES, true);
            Check.due("rule 11: parameters of " + method, tree.getParameters().size() <= 7, true);
            super.visitMethod(tree, none);
            method = before;
            return null;
        }

        @Override
        public Void visitVariable(VariableTree tree, Void none) {
            Element element = trees.getElement(getCurrentPath());
            if (element != null && element.getModifiers().contains(Modifier.STATIC)) {
                String type = element.asType().toString();
                boolean told = type.matches("(int|long|boolean|char|java.lang.String|(int|long|char|byte)\\[\\])");
                Check.due("rule 5: a static field of " + type + at(tree), told, true);
                Check.due("rule 5: a static field that is not final" + at(tree),
                        element.getModifiers().contains(Modifier.FINAL), true);
            }
            return super.visitVariable(tree, none);
        }

        @Override
        public Void visitMethodInvocation(MethodInvocationTree tree, Void none) {
            Element called = trees.getElement(getCurrentPath());
            String owner = called.getEnclosingElement().toString();
            String name = called.getSimpleName().toString();
            if (owner.equals("DogDecrees") || owner.startsWith("DogDecrees.")) {
                note(called);
            } else {
                Check.due("rule 4: " + owner + "." + name + at(tree),
                        LIBRARY.getOrDefault(owner, Set.of()).contains(name), true);
            }
            return super.visitMethodInvocation(tree, none);
        }

        @Override
        public Void visitNewClass(NewClassTree tree, Void none) {
            Check.due("rule 2: a class without a name" + at(tree), tree.getClassBody() == null, true);
            note(trees.getElement(getCurrentPath()));
            made(tree);
            return super.visitNewClass(tree, none);
        }

        @Override
        public Void visitNewArray(NewArrayTree tree, Void none) {
            made(tree);
            return super.visitNewArray(tree, none);
        }

        /** All rows are made with the object: the calls of a run make nothing. */
        private void made(Tree tree) {
            boolean early = method == null || method.getSimpleName().contentEquals("<init>");
            Check.due("rule 12: made in a call" + at(tree), early, true);
        }

        private void note(Element called) {
            if (method != null) {
                CALLS.get(method).add(called);
            }
        }

        @Override
        public Void visitForLoop(ForLoopTree tree, Void none) {
            Check.due("rule 9: a loop without an end" + at(tree), tree.getCondition() != null, true);
            return super.visitForLoop(tree, none);
        }
    }

    /** Methods that call one another count as one level: rule 11 is of calls that are no recursion. */
    private static void deep() {
        Map<Element, Set<Element>> behind = new HashMap<>();
        for (Element method : CALLS.keySet()) {
            behind.put(method, allBehind(method));
        }
        Map<Element, List<Element>> longest = new HashMap<>();
        Set<String> recursive = new TreeSet<>();
        for (Element method : CALLS.keySet()) {
            List<Element> chain = chain(method, behind, longest);
            Check.due("rule 11: calls go deeper than eight: " + chain, chain.size() <= DEEP, true);
            if (behind.get(method).contains(method)) {
                recursive.add(method.getSimpleName().toString());
            }
        }
        // each level of a formula's telling goes through all of its methods, and there are seven brackets or nots at most
        Check.due("rule 8: recursion but of these: " + recursive,
                Set.of("layFrom", "tellOr", "tellAnd", "tellOne", "tellNot", "tellSum", "tellTerm", "tellUnit")
                        .containsAll(recursive), true);
        Check.due("rule 8: calls that stand open at once", 2 * DEEP + 8 * recursive.size() < LEVELS, true);
    }

    private static Set<Element> allBehind(Element method) {
        Set<Element> found = new LinkedHashSet<>();
        List<Element> open = new ArrayList<>(List.of(method));
        for (int i = 0; i < open.size(); i++) {
            for (Element called : CALLS.getOrDefault(open.get(i), Set.of())) {
                if (found.add(called)) {
                    open.add(called);
                }
            }
        }
        return found;
    }

    private static List<Element> chain(Element method, Map<Element, Set<Element>> behind,
            Map<Element, List<Element>> known) {
        if (known.containsKey(method)) {
            return known.get(method);
        }
        List<Element> group = new ArrayList<>(List.of(method));
        for (Element other : CALLS.keySet()) {
            if (other != method && behind.get(method).contains(other) && behind.get(other).contains(method)) {
                group.add(other);
            }
        }
        List<Element> deepest = new ArrayList<>();
        for (Element member : group) {
            for (Element called : callsOf(member)) {
                if (!group.contains(called)) {
                    List<Element> further = chain(called, behind, known);
                    deepest = further.size() > deepest.size() ? further : deepest;
                }
            }
        }
        List<Element> whole = new ArrayList<>(List.of(method));
        whole.addAll(deepest);
        known.put(method, whole);
        return whole;
    }

    private static Collection<Element> callsOf(Element method) {
        return CALLS.getOrDefault(method, Set.of());
    }
}
