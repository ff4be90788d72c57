import com.sun.source.tree.ClassTree;
import com.sun.source.tree.CompilationUnitTree;
import com.sun.source.tree.MethodInvocationTree;
import com.sun.source.tree.MethodTree;
import com.sun.source.tree.NewArrayTree;
import com.sun.source.tree.NewClassTree;
import com.sun.source.tree.Tree;
import com.sun.source.tree.VariableTree;
import com.sun.source.util.JavacTask;
import com.sun.source.util.SourcePositions;
import com.sun.source.util.TreePathScanner;
import com.sun.source.util.Trees;
import java.util.ArrayDeque;
import java.util.Deque;
import java.util.LinkedHashMap;
import java.util.LinkedHashSet;
import java.util.List;
import java.util.Map;
import java.util.Set;
import java.util.TreeSet;
import javax.lang.model.element.Element;
import javax.lang.model.element.ElementKind;
import javax.lang.model.element.Modifier;
import javax.lang.model.element.TypeElement;
import javax.tools.JavaCompiler;
import javax.tools.StandardJavaFileManager;
import javax.tools.ToolProvider;

/** The rules of LANGUAGE.md that can be seen in the source of the class, each told by its number. */
public final class RulesTest {
    private static final String SOURCE = "src/main/java/ChordRings.java";
    private static final int MOST_PARAMETERS = 7, MOST_LINES = 60, MOST_DEPTH = 8, MOST_CLASSES = 12, MOST_FIELDS = 20;
    /** What no line of the class holds, with the rule that rules it out; the document names no exception to throw. */
    private static final Map<Tree.Kind, Integer> NEVER = Map.of(Tree.Kind.PACKAGE, 1, Tree.Kind.LAMBDA_EXPRESSION, 2,
        Tree.Kind.MEMBER_REFERENCE, 2, Tree.Kind.IMPORT, 4, Tree.Kind.THROW, 6, Tree.Kind.TRY, 6,
        Tree.Kind.SYNCHRONIZED, 6, Tree.Kind.ASSERT, 6);
    private static int wrong = 0;

    private static void check(int rule, boolean holds, String what) {
        if (!holds) {
            wrong++;
            System.out.println("rule " + rule + ": " + what);
        }
    }

    public static void main(String[] args) throws Exception {
        JavaCompiler compiler = ToolProvider.getSystemJavaCompiler();
        StandardJavaFileManager files = compiler.getStandardFileManager(null, null, null);
        JavacTask task = (JavacTask) compiler.getTask(null, files, null, List.of("--release", "17"), null,
            files.getJavaFileObjects(SOURCE));
        CompilationUnitTree unit = task.parse().iterator().next();
        task.analyze();
        Scan scan = new Scan(unit, Trees.instance(task));
        scan.scan(unit, null);
        scan.checkWhole();
        System.out.println(scan.classes.size() + " classes, " + scan.calls.size() + " methods, calls go "
            + scan.deepest + " deep, " + wrong + " rules are broken");
        if (wrong != 0) {
            System.exit(1);
        }
    }

    private static final class Scan extends TreePathScanner<Void, Void> {
        final Set<String> classes = new LinkedHashSet<>();
        /** Which methods of the file each one calls. */
        final Map<Element, Set<Element>> calls = new LinkedHashMap<>();
        final Set<String> publicNames = new TreeSet<>();
        final Set<String> privateNames = new TreeSet<>();
        int deepest = 0;
        private final CompilationUnitTree unit;
        private final Trees trees;
        private final SourcePositions positions;
        private final Deque<Element> open = new ArrayDeque<>();

        Scan(CompilationUnitTree unit, Trees trees) {
            this.unit = unit;
            this.trees = trees;
            positions = trees.getSourcePositions();
        }

        private long line(long position) {
            return unit.getLineMap().getLineNumber(position);
        }

        private String place(Tree tree) {
            return "line " + line(positions.getStartPosition(unit, tree)) + ", " + tree.getKind();
        }

        void checkWhole() {
            check(1, classes.contains("ChordRings"), "the class is not there");
            check(11, classes.size() <= MOST_CLASSES, classes.size() + " classes");
            privateNames.retainAll(publicNames);
            check(1, privateNames.isEmpty(), "private methods are named as public ones: " + privateNames);
            for (Element method : calls.keySet()) {
                deepest = Math.max(deepest, depth(method, 1));
            }
            check(11, deepest <= MOST_DEPTH, "calls go " + deepest + " deep");
        }

        private int depth(Element method, int above) {
            int most = above;
            for (Element called : calls.getOrDefault(method, Set.of())) {
                if (above > 2 * MOST_DEPTH) {
                    check(8, false, called + " is called from within itself");
                    return above;
                }
                most = Math.max(most, depth(called, above + 1));
            }
            return most;
        }

        @Override
        public Void scan(Tree tree, Void nothing) {
            if (tree != null && NEVER.containsKey(tree.getKind())) {
                check(NEVER.get(tree.getKind()), false, place(tree));
            }
            return super.scan(tree, nothing);
        }

        @Override
        public Void visitClass(ClassTree tree, Void nothing) {
            Set<Modifier> modifiers = tree.getModifiers().getFlags();
            String name = tree.getSimpleName().toString();
            boolean outer = classes.isEmpty();
            classes.add(name);
            check(1, modifiers.contains(Modifier.FINAL), name + " is not final");
            check(1, outer ? modifiers.contains(Modifier.PUBLIC)
                : modifiers.contains(Modifier.STATIC) && !modifiers.contains(Modifier.PUBLIC), name + " " + modifiers);
            int fields = 0;
            for (Tree member : tree.getMembers()) {
                check(5, member.getKind() != Tree.Kind.BLOCK, "a block stands in " + name);
                if (member instanceof VariableTree && !isStatic((VariableTree) member)) {
                    fields++;
                }
            }
            check(11, fields <= MOST_FIELDS, name + " has " + fields + " fields");
            return super.visitClass(tree, nothing);
        }

        private static boolean isStatic(VariableTree field) {
            return field.getModifiers().getFlags().contains(Modifier.STATIC);
        }

        @Override
        public Void visitVariable(VariableTree tree, Void nothing) {
            Set<Modifier> modifiers = tree.getModifiers().getFlags();
            String type = trees.getTypeMirror(getCurrentPath()).toString();
            if (modifiers.contains(Modifier.STATIC)) {
                check(5, modifiers.contains(Modifier.FINAL), tree.getName() + " is static and not final");
                check(5, type.equals("int"), tree.getName() + " is a static " + type);
            }
            check(3, type.equals("int") || type.equals("int[]") || type.equals("boolean") || type.startsWith("ChordRings"),
                tree.getName() + " is of the type " + type);
            return super.visitVariable(tree, nothing);
        }

        @Override
        public Void visitMethod(MethodTree tree, Void nothing) {
            Element method = trees.getElement(getCurrentPath());
            String name = tree.getName().toString();
            long first = line(positions.getStartPosition(unit, tree));
            long last = line(Math.max(positions.getStartPosition(unit, tree), positions.getEndPosition(unit, tree)));
            check(11, last - first < MOST_LINES, name + " has " + (last - first + 1) + " lines");
            check(11, tree.getParameters().size() <= MOST_PARAMETERS, name + " takes too many parameters");
            Set<Modifier> modifiers = tree.getModifiers().getFlags();
            boolean ofFace = ((TypeElement) method.getEnclosingElement()).getSimpleName().contentEquals("ChordRings");
            if (ofFace) {
                check(1, modifiers.contains(Modifier.PUBLIC) || modifiers.contains(Modifier.PRIVATE), name + " is neither");
            }
            (modifiers.contains(Modifier.PUBLIC) ? publicNames : privateNames).add(name);
            privateNames.remove("<init>");
            calls.put(method, new LinkedHashSet<>());
            open.push(method);
            super.visitMethod(tree, nothing);
            open.pop();
            return null;
        }

        @Override
        public Void visitMethodInvocation(MethodInvocationTree tree, Void nothing) {
            addCall(tree);
            return super.visitMethodInvocation(tree, nothing);
        }

        @Override
        public Void visitNewClass(NewClassTree tree, Void nothing) {
            boolean making = !open.isEmpty() && open.peek().getKind() == ElementKind.CONSTRUCTOR;
            check(12, making, place(tree) + ": a call makes an object");
            addCall(tree);
            return super.visitNewClass(tree, nothing);
        }

        @Override
        public Void visitNewArray(NewArrayTree tree, Void nothing) {
            check(12, open.isEmpty(), place(tree) + ": a call makes a row");
            return super.visitNewArray(tree, nothing);
        }

        private void addCall(Tree tree) {
            Element called = trees.getElement(getCurrentPath());
            Element owner = called.getEnclosingElement();
            // Every constructor begins with that of the class above all.
            if (owner.toString().equals("java.lang.Object")) {
                return;
            }
            check(4, owner.toString().startsWith("ChordRings"), place(tree) + ": " + owner + "." + called);
            if (!open.isEmpty()) {
                calls.get(open.peek()).add(called);
            }
        }
    }
}
