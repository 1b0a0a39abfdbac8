import com.sun.source.tree.AssertTree;
import com.sun.source.tree.BlockTree;
import com.sun.source.tree.ClassTree;
import com.sun.source.tree.CompilationUnitTree;
import com.sun.source.tree.DoWhileLoopTree;
import com.sun.source.tree.ForLoopTree;
import com.sun.source.tree.ImportTree;
import com.sun.source.tree.LambdaExpressionTree;
import com.sun.source.tree.MemberReferenceTree;
import com.sun.source.tree.MethodInvocationTree;
import com.sun.source.tree.MethodTree;
import com.sun.source.tree.NewArrayTree;
import com.sun.source.tree.NewClassTree;
import com.sun.source.tree.SynchronizedTree;
import com.sun.source.tree.ThrowTree;
import com.sun.source.tree.Tree;
import com.sun.source.tree.TryTree;
import com.sun.source.tree.VariableTree;
import com.sun.source.tree.WhileLoopTree;
import com.sun.source.util.JavacTask;
import com.sun.source.util.TreePathScanner;
import com.sun.source.util.Trees;
import java.io.IOException;
import java.nio.file.Path;
import java.util.ArrayList;
import java.util.HashMap;
import java.util.LinkedHashSet;
import java.util.List;
import java.util.Map;
import java.util.Set;
import javax.lang.model.element.Element;
import javax.lang.model.element.Modifier;
import javax.tools.JavaCompiler;
import javax.tools.StandardJavaFileManager;
import javax.tools.ToolProvider;

/** What can be seen of LANGUAGE.md's rules in the text of the class, as the compiler reads it. */
public final class LanguageTest {
    private static final Path SOURCE = Path.of("src/main/java/DigestTrees.java");
    private static final int MOST_CLASSES = 12;
    private static final int MOST_FIELDS = 20;
    private static final int MOST_PARAMETERS = 7;
    private static final int MOST_LINES = 60;
    private static final int MOST_DEPTH = 8;
    private static final Set<String> LIBRARY = Set.of(
        "Integer.rotateLeft", "Integer.rotateRight", "Arrays.fill", "System.arraycopy");
    private static final Set<String> IMPORTS = Set.of("java.util.Arrays", "java.util.NoSuchElementException");
    private static final Map<String, Set<String>> THROWS = Map.of(
        "IllegalArgumentException", Set.of("row", "table"),
        "IllegalStateException", Set.of("round"),
        "NoSuchElementException", Set.of("get", "foundValue"),
        "ArrayIndexOutOfBoundsException", Set.of("digest", "sum"));

    private static final Map<String, Set<String>> CALLS = new HashMap<>();
    private static int wrong = 0;
    private static int thrown = 0;

    public static void main(String[] args) throws IOException {
        JavaCompiler compiler = ToolProvider.getSystemJavaCompiler();
        try (StandardJavaFileManager files = compiler.getStandardFileManager(null, null, null)) {
            List<String> options = List.of("--release", "17", "-proc:none");
            JavacTask task = (JavacTask) compiler.getTask(
                null, files, null, options, null, files.getJavaFileObjects(SOURCE));
            CompilationUnitTree unit = task.parse().iterator().next();
            task.analyze();
            new Reader(Trees.instance(task), unit).scan(unit, null);
        }
        due("rule 6: as many throws as the face names", thrown == 7);
        for (String method : CALLS.keySet()) {
            int depth = depth(method, new ArrayList<>());
            due("rule 11: " + method + " goes " + depth + " calls deep", depth <= MOST_DEPTH);
        }
        System.out.println(wrong == 0 ? "the rules are kept" : wrong + " faults against the rules");
        if (wrong != 0) {
            System.exit(1);
        }
    }

    private static void due(String what, boolean holds) {
        if (!holds) {
            wrong++;
            System.out.println(what);
        }
    }

    /** How many calls stand open at once, the first one counted too, and those of the library. */
    private static int depth(String method, List<String> open) {
        if (open.contains(method)) {
            due("rule 8: " + method + " comes back to itself by " + open, false);
            return 0;
        }
        open.add(method);
        int most = 0;
        for (String called : CALLS.getOrDefault(method, Set.of())) {
            most = Math.max(most, depth(called, open));
        }
        open.remove(method);
        return most + 1;
    }

    private static final class Reader extends TreePathScanner<Void, Void> {
        private final Trees trees;
        private final CompilationUnitTree unit;
        private int classes = 0;
        private MethodTree method = null;

        Reader(Trees trees, CompilationUnitTree unit) {
            this.trees = trees;
            this.unit = unit;
        }

        private Element element() {
            return trees.getElement(getCurrentPath());
        }

        private boolean isOwn(Element owner) {
            return owner.toString().startsWith("DigestTrees");
        }

        private long line(long position) {
            return unit.getLineMap().getLineNumber(position);
        }

        private String place(Tree tree) {
            return " (line " + line(trees.getSourcePositions().getStartPosition(unit, tree)) + ")";
        }

        private String name(Element called) {
            return called.getEnclosingElement().getSimpleName() + "." + called.getSimpleName();
        }

        @Override
        public Void visitCompilationUnit(CompilationUnitTree tree, Void none) {
            due("rule 1: a package line", tree.getPackageName() == null);
            due("one class in the file", tree.getTypeDecls().size() == 1);
            return super.visitCompilationUnit(tree, none);
        }

        @Override
        public Void visitImport(ImportTree tree, Void none) {
            due("rule 4: " + tree, IMPORTS.contains(tree.getQualifiedIdentifier().toString()));
            return null;
        }

        @Override
        public Void visitClass(ClassTree tree, Void none) {
            classes++;
            due("rule 11: more than " + MOST_CLASSES + " classes", classes <= MOST_CLASSES);
            long fields = tree.getMembers().stream().filter(member -> member instanceof VariableTree field
                && !field.getModifiers().getFlags().contains(Modifier.STATIC)).count();
            due("rule 11: " + fields + " fields in " + tree.getSimpleName(), fields <= MOST_FIELDS);
            for (Tree member : tree.getMembers()) {
                due("rule 5: an initialiser block" + place(member), !(member instanceof BlockTree));
            }
            return super.visitClass(tree, none);
        }

        @Override
        public Void visitVariable(VariableTree tree, Void none) {
            Set<Modifier> flags = tree.getModifiers().getFlags();
            if (flags.contains(Modifier.STATIC)) {
                due("rule 5: static and not final" + place(tree), flags.contains(Modifier.FINAL));
                due("rule 5: of a type not told" + place(tree),
                    Set.of("int", "long", "int[]").contains(tree.getType().toString()));
            }
            return super.visitVariable(tree, none);
        }

        @Override
        public Void visitMethod(MethodTree tree, Void none) {
            if (trees.getSourcePositions().getStartPosition(unit, tree) >= 0 && tree.getBody() != null) {
                long first = line(trees.getSourcePositions().getStartPosition(unit, tree));
                long last = line(trees.getSourcePositions().getEndPosition(unit, tree));
                due("rule 11: " + tree.getName() + " has " + (last - first + 1) + " lines",
                    last - first + 1 <= MOST_LINES);
            }
            due("rule 6: synchronized" + place(tree),
                !tree.getModifiers().getFlags().contains(Modifier.SYNCHRONIZED));
            due("rule 11: parameters of " + tree.getName(), tree.getParameters().size() <= MOST_PARAMETERS);
            method = tree;
            CALLS.put(name(element()), new LinkedHashSet<>());
            super.visitMethod(tree, none);
            method = null;
            return null;
        }

        @Override
        public Void visitMethodInvocation(MethodInvocationTree tree, Void none) {
            Element called = element();
            String name = name(called);
            boolean own = isOwn(called.getEnclosingElement());
            // A constructor's call of the class above it is written by the compiler.
            boolean written = !tree.getMethodSelect().toString().equals("super");
            due("rule 4: " + name + place(tree), own || !written || LIBRARY.contains(name));
            if (method != null && written) {
                CALLS.get(name(trees.getElement(trees.getPath(unit, method)))).add(name);
            }
            return super.visitMethodInvocation(tree, none);
        }

        @Override
        public Void visitNewClass(NewClassTree tree, Void none) {
            boolean own = isOwn(element().getEnclosingElement());
            boolean inThrow = getCurrentPath().getParentPath().getLeaf() instanceof ThrowTree;
            due("a call makes an object" + place(tree), inThrow || own && method == null);
            return super.visitNewClass(tree, none);
        }

        @Override
        public Void visitNewArray(NewArrayTree tree, Void none) {
            due("a call makes an array" + place(tree), method == null);
            return super.visitNewArray(tree, none);
        }

        @Override
        public Void visitThrow(ThrowTree tree, Void none) {
            thrown++;
            boolean fresh = tree.getExpression() instanceof NewClassTree;
            due("rule 6: not a new exception" + place(tree), fresh);
            if (fresh) {
                NewClassTree made = (NewClassTree) tree.getExpression();
                Set<String> where = THROWS.getOrDefault(made.getIdentifier().toString(), Set.of());
                due("rule 6: thrown where the document does not say so" + place(tree),
                    method != null && where.contains(method.getName().toString()));
                due("rule 6: no written text" + place(tree), made.getArguments().size() <= 1
                    && made.getArguments().stream().allMatch(text -> text.getKind() == Tree.Kind.STRING_LITERAL));
            }
            return super.visitThrow(tree, none);
        }

        @Override
        public Void visitForLoop(ForLoopTree tree, Void none) {
            due("rule 9: a loop without a bound" + place(tree), tree.getCondition() != null);
            due("rule 9: a loop without a step" + place(tree), !tree.getUpdate().isEmpty());
            return super.visitForLoop(tree, none);
        }

        @Override
        public Void visitWhileLoop(WhileLoopTree tree, Void none) {
            due("rule 9: a loop whose head shows no step" + place(tree), false);
            return super.visitWhileLoop(tree, none);
        }

        @Override
        public Void visitDoWhileLoop(DoWhileLoopTree tree, Void none) {
            due("rule 9: a loop whose head shows no step" + place(tree), false);
            return super.visitDoWhileLoop(tree, none);
        }

        @Override
        public Void visitTry(TryTree tree, Void none) {
            due("rule 6: the machine's exceptions are not caught, and there are no others" + place(tree), false);
            return super.visitTry(tree, none);
        }

        @Override
        public Void visitAssert(AssertTree tree, Void none) {
            due("rule 6: an assert" + place(tree), false);
            return super.visitAssert(tree, none);
        }

        @Override
        public Void visitSynchronized(SynchronizedTree tree, Void none) {
            due("rule 6: synchronized" + place(tree), false);
            return super.visitSynchronized(tree, none);
        }

        @Override
        public Void visitLambdaExpression(LambdaExpressionTree tree, Void none) {
            due("rule 2: a lambda" + place(tree), false);
            return super.visitLambdaExpression(tree, none);
        }

        @Override
        public Void visitMemberReference(MemberReferenceTree tree, Void none) {
            due("rule 2: a method reference" + place(tree), false);
            return super.visitMemberReference(tree, none);
        }
    }
}
