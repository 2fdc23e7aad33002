import com.sun.source.tree.ClassTree;
import com.sun.source.tree.CompilationUnitTree;
import com.sun.source.tree.ForLoopTree;
import com.sun.source.tree.ImportTree;
import com.sun.source.tree.MethodInvocationTree;
import com.sun.source.tree.MethodTree;
import com.sun.source.tree.NewClassTree;
import com.sun.source.tree.Tree;
import com.sun.source.tree.VariableTree;
import com.sun.source.util.JavacTask;
import com.sun.source.util.SourcePositions;
import com.sun.source.util.TreePath;
import com.sun.source.util.TreePathScanner;
import com.sun.source.util.Trees;
import java.io.IOException;
import java.nio.file.Path;
import java.util.ArrayDeque;
import java.util.ArrayList;
import java.util.Deque;
import java.util.EnumSet;
import java.util.LinkedHashMap;
import java.util.LinkedHashSet;
import java.util.List;
import java.util.Map;
import java.util.Set;
import javax.lang.model.element.Element;
import javax.lang.model.element.ElementKind;
import javax.lang.model.element.Modifier;
import javax.lang.model.element.TypeElement;
import javax.tools.JavaCompiler;
import javax.tools.StandardJavaFileManager;
import javax.tools.ToolProvider;

/**
 * The rules of ../shared/LANGUAGE.md that can be read off the text of the class, by their numbers. Of what the rules
 * leave, this lets the class have only what it uses: whoever needs more of it adds it here.
 */
public final class LanguageTest {
    private static final Path SOURCE = Path.of("src/main/java/CostFlow.java");
    private static final Set<String> TYPES = Set.of("int", "long", "boolean", "int[]", "long[]", "boolean[]");
    private static final Set<String> LIBRARY = Set.of("java.util.Arrays.fill", "java.lang.Math.min",
        "java.lang.Integer.bitCount", "java.lang.Object.<init>");
    private static final Map<Tree.Kind, Integer> NOT_USED = Map.ofEntries(
        Map.entry(Tree.Kind.LAMBDA_EXPRESSION, 2), Map.entry(Tree.Kind.MEMBER_REFERENCE, 2),
        Map.entry(Tree.Kind.STRING_LITERAL, 3), Map.entry(Tree.Kind.TRY, 6), Map.entry(Tree.Kind.THROW, 6),
        Map.entry(Tree.Kind.SYNCHRONIZED, 6), Map.entry(Tree.Kind.ASSERT, 6), Map.entry(Tree.Kind.INSTANCE_OF, 6),
        Map.entry(Tree.Kind.TYPE_CAST, 7), Map.entry(Tree.Kind.DIVIDE, 7), Map.entry(Tree.Kind.REMAINDER, 7),
        Map.entry(Tree.Kind.DIVIDE_ASSIGNMENT, 7), Map.entry(Tree.Kind.REMAINDER_ASSIGNMENT, 7),
        Map.entry(Tree.Kind.NULL_LITERAL, 7), Map.entry(Tree.Kind.WHILE_LOOP, 9), Map.entry(Tree.Kind.DO_WHILE_LOOP, 9));
    private static final int MOST_PARAMETERS = 7;
    private static final int MOST_LINES = 60;
    private static final int DEEPEST = 8;
    private static final int MOST_CLASSES = 12;
    private static final int MOST_FIELDS = 20;

    private static int wrong = 0;
    private static int classes = 0;
    private static final Map<Element, Set<Element>> calls = new LinkedHashMap<>();

    private static void due(int rule, String what, boolean holds) {
        if (!holds) {
            wrong++;
            System.out.println("rule " + rule + ": " + what);
        }
    }

    private static final class Reader extends TreePathScanner<Void, Void> {
        private final Trees trees;
        private final CompilationUnitTree unit;
        private final Deque<Element> methods = new ArrayDeque<>();

        Reader(Trees trees, CompilationUnitTree unit) {
            this.trees = trees;
            this.unit = unit;
        }

        private long lineOf(long position) {
            return unit.getLineMap().getLineNumber(position);
        }

        @Override
        public Void scan(Tree tree, Void none) {
            if (tree != null && NOT_USED.containsKey(tree.getKind())) {
                long line = lineOf(trees.getSourcePositions().getStartPosition(unit, tree));
                due(NOT_USED.get(tree.getKind()), tree.getKind() + " in line " + line, false);
            }
            return super.scan(tree, none);
        }

        @Override
        public Void visitImport(ImportTree tree, Void none) {
            due(4, tree.getQualifiedIdentifier() + " is imported", tree.getQualifiedIdentifier().toString().equals("java.util.Arrays"));
            return null;
        }

        @Override
        public Void visitClass(ClassTree tree, Void none) {
            classes++;
            int fields = 0;
            for (Tree member : tree.getMembers()) {
                due(5, tree.getSimpleName() + " has an initialiser block", member.getKind() != Tree.Kind.BLOCK);
                if (member instanceof VariableTree field && !isStatic(field)) {
                    fields++;
                }
            }
            due(11, tree.getSimpleName() + " has " + fields + " fields", fields <= MOST_FIELDS);
            Element parent = trees.getElement(getCurrentPath()).getEnclosingElement();
            Set<Modifier> modifiers = tree.getModifiers().getFlags();
            if (parent.getKind() == ElementKind.CLASS) {
                due(2, tree.getSimpleName() + " is not private, static and final",
                    modifiers.equals(EnumSet.of(Modifier.PRIVATE, Modifier.STATIC, Modifier.FINAL)));
            } else {
                due(1, tree.getSimpleName() + " is not public and final", modifiers.equals(EnumSet.of(Modifier.PUBLIC, Modifier.FINAL)));
                due(1, tree.getSimpleName() + " stands inside something", parent.getKind() == ElementKind.PACKAGE);
            }
            return super.visitClass(tree, none);
        }

        private static boolean isStatic(VariableTree variable) {
            return variable.getModifiers().getFlags().contains(Modifier.STATIC);
        }

        @Override
        public Void visitVariable(VariableTree tree, Void none) {
            Element variable = trees.getElement(getCurrentPath());
            String type = variable.asType().toString();
            boolean own = type.startsWith("CostFlow.");
            due(3, tree + " is of another type", TYPES.contains(type) || own);
            if (isStatic(tree)) {
                due(5, tree + " is no constant of int or long", (type.equals("int") || type.equals("long"))
                    && tree.getModifiers().getFlags().contains(Modifier.FINAL));
            }
            return super.visitVariable(tree, none);
        }

        @Override
        public Void visitMethod(MethodTree tree, Void none) {
            Element method = trees.getElement(getCurrentPath());
            due(11, tree.getName() + " takes too many", tree.getParameters().size() <= MOST_PARAMETERS);
            SourcePositions positions = trees.getSourcePositions();
            long lines = lineOf(positions.getEndPosition(unit, tree)) - lineOf(positions.getStartPosition(unit, tree));
            due(11, tree.getName() + " has " + lines + " lines", lines < MOST_LINES);
            calls.put(method, new LinkedHashSet<>());
            methods.push(method);
            super.visitMethod(tree, none);
            methods.pop();
            return null;
        }

        @Override
        public Void visitForLoop(ForLoopTree tree, Void none) {
            due(9, "a loop without a bound in line " + lineOf(trees.getSourcePositions().getStartPosition(unit, tree)),
                tree.getCondition() != null && tree.getUpdate().size() == 1);
            return super.visitForLoop(tree, none);
        }

        @Override
        public Void visitMethodInvocation(MethodInvocationTree tree, Void none) {
            Element called = trees.getElement(new TreePath(getCurrentPath(), tree.getMethodSelect()));
            TypeElement owner = (TypeElement) called.getEnclosingElement();
            if (owner.getQualifiedName().toString().startsWith("CostFlow")) {
                calls.get(methods.peek()).add(called);
            } else {
                String name = owner.getQualifiedName() + "." + called.getSimpleName();
                due(4, name + " is called", LIBRARY.contains(name));
            }
            return super.visitMethodInvocation(tree, none);
        }

        @Override
        public Void visitNewClass(NewClassTree tree, Void none) {
            due(12, tree + " is made in a call", methods.peek().getKind() == ElementKind.CONSTRUCTOR);
            return super.visitNewClass(tree, none);
        }
    }

    /** How many calls stand open at once, at most; more than that when methods call themselves. */
    private static int depth(Element method, List<Element> open) {
        if (open.contains(method)) {
            due(8, open + " calls itself", false);
            return 0;
        }
        open.add(method);
        int deepest = 0;
        for (Element called : calls.getOrDefault(method, Set.of())) {
            deepest = Math.max(deepest, depth(called, open));
        }
        open.remove(open.size() - 1);
        return deepest + 1;
    }

    public static void main(String[] args) throws IOException {
        JavaCompiler compiler = ToolProvider.getSystemJavaCompiler();
        StandardJavaFileManager files = compiler.getStandardFileManager(null, null, null);
        JavacTask task = (JavacTask) compiler.getTask(null, files, null, List.of("--release", "17", "-proc:none"), null,
            files.getJavaFileObjects(SOURCE));
        List<CompilationUnitTree> units = new ArrayList<>();
        task.parse().forEach(units::add);
        task.analyze();
        CompilationUnitTree unit = units.get(0);
        due(1, "there is a package, or more than one class", unit.getPackage() == null && unit.getTypeDecls().size() == 1);
        new Reader(Trees.instance(task), unit).scan(unit, null);
        due(11, classes + " classes", classes <= MOST_CLASSES);
        for (Element method : calls.keySet()) {
            int depth = depth(method, new ArrayList<>());
            due(11, method + " goes " + depth + " calls deep", depth <= DEEPEST);
        }
        due(11, "hardly a method was read", calls.size() > 20);
        System.out.println(wrong == 0 ? "the class keeps to the rules that were looked at" : wrong + " rules are broken");
        if (wrong != 0) {
            System.exit(1);
        }
    }
}
