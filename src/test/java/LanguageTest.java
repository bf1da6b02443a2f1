import com.sun.source.tree.AssertTree;
import com.sun.source.tree.BinaryTree;
import com.sun.source.tree.BlockTree;
import com.sun.source.tree.ClassTree;
import com.sun.source.tree.CompilationUnitTree;
import com.sun.source.tree.ImportTree;
import com.sun.source.tree.LambdaExpressionTree;
import com.sun.source.tree.MemberReferenceTree;
import com.sun.source.tree.MethodInvocationTree;
import com.sun.source.tree.MethodTree;
import com.sun.source.tree.NewClassTree;
import com.sun.source.tree.SynchronizedTree;
import com.sun.source.tree.ThrowTree;
import com.sun.source.tree.Tree;
import com.sun.source.tree.TryTree;
import com.sun.source.tree.VariableTree;
import com.sun.source.util.JavacTask;
import com.sun.source.util.TreePathScanner;
import com.sun.source.util.Trees;
import java.io.File;
import java.io.IOException;
import java.util.ArrayList;
import java.util.HashMap;
import java.util.List;
import java.util.Map;
import java.util.Set;
import java.util.TreeSet;
import javax.lang.model.element.Element;
import javax.lang.model.element.Modifier;
import javax.lang.model.type.TypeMirror;
import javax.tools.JavaCompiler;
import javax.tools.StandardJavaFileManager;
import javax.tools.ToolProvider;

/** The program keeps to the part of Java that ../shared/LANGUAGE.md leaves, as far as its text can tell. */
public final class LanguageTest {
    private static final File SOURCE = new File("src/main/java/SeriesVault.java");
    private static final Set<String> LIBRARY = Set.of(
            "java.lang.Object.<init>",
            "java.lang.String.length", "java.lang.String.charAt",
            "java.util.ArrayList.<init>", "java.util.ArrayList.add", "java.util.ArrayList.get", "java.util.ArrayList.set",
            "java.util.ArrayList.size", "java.util.ArrayList.clear",
            "java.lang.Math.max", "java.lang.Math.min",
            "java.lang.Long.numberOfLeadingZeros", "java.lang.Long.numberOfTrailingZeros",
            "java.lang.System.arraycopy",
            "java.util.Arrays.copyOf", "java.util.Arrays.copyOfRange", "java.util.Arrays.fill");
    private static final Set<String> EXCEPTIONS = Set.of(
            "IllegalStateException", "IllegalArgumentException", "IndexOutOfBoundsException", "UnsupportedOperationException");
    private static final Set<String> NUMBERS = Set.of("int", "long", "short", "byte", "char", "boolean");
    private static final Set<String> CONSTANTS = Set.of("int", "long", "boolean", "char", "java.lang.String", "int[]", "long[]", "char[]", "byte[]");
    private static final int LINES = 60;
    private static final int PARAMETERS = 7;
    private static final int CLASSES = 12;
    private static final int FIELDS = 20;
    private static final int DEPTH = 8;
    private static final int OPEN_CALLS = 300;
    private static final Check CHECK = new Check();

    private LanguageTest() {
    }

    public static void main(String[] args) throws IOException {
        JavaCompiler compiler = ToolProvider.getSystemJavaCompiler();
        try (StandardJavaFileManager files = compiler.getStandardFileManager(null, null, null)) {
            JavacTask task = (JavacTask) compiler.getTask(null, files, null, List.of("-proc:none"), null, files.getJavaFileObjects(SOURCE));
            CompilationUnitTree unit = task.parse().iterator().next();
            task.analyze();
            Reader reader = new Reader(unit, Trees.instance(task));
            reader.scan(unit, null);
            keeps("rule 11: the file has at most some twelve classes", "classes", reader.classes <= CLASSES);
            lookAtDepth(reader.calls);
        }
        CHECK.finish("LanguageTest");
    }

    private static void keeps(String rule, String what, boolean fine) {
        CHECK.due("[" + rule + "] " + what, fine, true);
    }

    /** Methods that call one another are a recursion: they count as one step of a way. */
    private static void lookAtDepth(Map<String, Set<String>> calls) {
        Map<String, Set<String>> reached = new HashMap<>();
        for (String method : calls.keySet()) {
            Set<String> found = new TreeSet<>();
            reach(method, calls, found);
            reached.put(method, found);
        }
        Map<String, List<String>> ways = new HashMap<>();
        for (String method : calls.keySet()) {
            List<String> way = longestWay(method, calls, reached, ways);
            keeps("rule 11: calls that are no recursion go at most eight deep", way.toString(), way.size() <= DEPTH);
        }
        int recursive = 0;
        for (String method : calls.keySet()) {
            recursive += reached.get(method).contains(method) ? 1 : 0;
        }
        // A question has at most eight open, so that each of these stands open at most nine times.
        keeps("rule 8: the calls that stand open at once stay under 300", "open", recursive * 9 + DEPTH < OPEN_CALLS);
    }

    private static void reach(String method, Map<String, Set<String>> calls, Set<String> found) {
        for (String next : calls.getOrDefault(method, Set.of())) {
            if (found.add(next)) {
                reach(next, calls, found);
            }
        }
    }

    private static List<String> longestWay(String method, Map<String, Set<String>> calls, Map<String, Set<String>> reached, Map<String, List<String>> ways) {
        if (ways.containsKey(method)) {
            return ways.get(method);
        }
        List<String> longest = List.of();
        Set<String> together = new TreeSet<>(Set.of(method));
        for (String other : reached.get(method)) {
            if (reached.get(other).contains(method)) {
                together.add(other);
            }
        }
        for (String one : together) {
            for (String next : calls.get(one)) {
                if (!together.contains(next)) {
                    List<String> way = longestWay(next, calls, reached, ways);
                    longest = way.size() > longest.size() ? way : longest;
                }
            }
        }
        List<String> whole = new ArrayList<>(List.of(method));
        whole.addAll(longest);
        ways.put(method, whole);
        return whole;
    }

    /** Looks at each part of the text that a rule is about. */
    private static final class Reader extends TreePathScanner<Void, Void> {
        private final CompilationUnitTree unit;
        private final Trees trees;
        private final Map<String, Set<String>> calls = new HashMap<>();
        private int classes;
        private String method = "";
        private boolean inConstructor;
        private boolean holdsTry;
        private boolean holdsThrow;

        Reader(CompilationUnitTree unit, Trees trees) {
            this.unit = unit;
            this.trees = trees;
        }

        private String at(Tree tree) {
            return "line " + line(trees.getSourcePositions().getStartPosition(unit, tree));
        }

        private long line(long position) {
            return unit.getLineMap().getLineNumber(position);
        }

        private void never(String sentence, Tree tree) {
            keeps(sentence, at(tree), false);
        }

        private static boolean isOwn(String name) {
            return name.equals("SeriesVault") || name.startsWith("SeriesVault.");
        }

        @Override
        public Void visitCompilationUnit(CompilationUnitTree tree, Void none) {
            keeps("one file, without a package line", "package", tree.getPackageName() == null);
            keeps("one public class", "classes beside it", tree.getTypeDecls().size() == 1);
            return super.visitCompilationUnit(tree, none);
        }

        @Override
        public Void visitImport(ImportTree tree, Void none) {
            String name = tree.getQualifiedIdentifier().toString();
            keeps("rule 4: the library: only what stands here", name, Set.of("java.util.ArrayList", "java.util.Arrays", "java.util.List").contains(name));
            return null;
        }

        @Override
        public Void visitClass(ClassTree tree, Void none) {
            classes++;
            boolean outer = tree.getSimpleName().contentEquals("SeriesVault");
            keeps("rule 1: the classes inside it are static", at(tree), outer || tree.getModifiers().getFlags().contains(Modifier.STATIC));
            keeps("rule 2: no local class", at(tree), method.isEmpty());
            keeps("rule 11: a class has some twenty fields beside its constants", "fields of " + tree.getSimpleName(), fields(tree) <= FIELDS);
            return super.visitClass(tree, none);
        }

        private static int fields(ClassTree tree) {
            int found = 0;
            for (Tree member : tree.getMembers()) {
                boolean own = member instanceof VariableTree && !((VariableTree) member).getModifiers().getFlags().contains(Modifier.STATIC);
                found += own ? 1 : 0;
            }
            return found;
        }

        @Override
        public Void visitMethod(MethodTree tree, Void none) {
            Element made = trees.getElement(getCurrentPath());
            method = made.getEnclosingElement() + "." + made.getSimpleName();
            calls.computeIfAbsent(method, name -> new TreeSet<>());
            inConstructor = tree.getReturnType() == null;
            holdsTry = false;
            holdsThrow = false;
            long start = trees.getSourcePositions().getStartPosition(unit, tree);
            long end = trees.getSourcePositions().getEndPosition(unit, tree);
            keeps("rule 11: a method takes at most seven parameters", method, tree.getParameters().size() <= PARAMETERS);
            keeps("rule 11: methods stay short (some sixty lines)", method, end < start || line(end) - line(start) < LINES);
            if (tree.getReturnType() != null) {
                lookAtType(tree.getReturnType().toString(), made.asType(), tree);
            }
            super.visitMethod(tree, none);
            keeps("rule 6: never try in the very method that holds the throw", method, !(holdsTry && holdsThrow));
            method = "";
            return null;
        }

        private void lookAtType(String written, TypeMirror type, Tree tree) {
            String one = written.replace("[]", "");
            int dimensions = (written.length() - one.length()) / 2;
            boolean number = NUMBERS.contains(one);
            boolean list = one.startsWith("ArrayList<") || one.startsWith("List<");
            boolean text = one.equals("String") || one.equals("StringBuilder");
            boolean fine = number && dimensions <= 2 || (list || text || one.equals("void")) && dimensions == 0
                    || !number && !list && !text && dimensions <= 1 && isOwnName(one);
            keeps("rule 3: types", at(tree) + " " + type + " as " + written, fine);
        }

        private boolean isOwnName(String name) {
            ClassTree outer = (ClassTree) unit.getTypeDecls().get(0);
            for (Tree member : outer.getMembers()) {
                if (member instanceof ClassTree && ((ClassTree) member).getSimpleName().contentEquals(name)) {
                    return true;
                }
            }
            return name.equals("SeriesVault");
        }

        @Override
        public Void visitVariable(VariableTree tree, Void none) {
            Element made = trees.getElement(getCurrentPath());
            lookAtType(tree.getType().toString(), made.asType(), tree);
            Set<Modifier> flags = tree.getModifiers().getFlags();
            if (flags.contains(Modifier.STATIC)) {
                boolean fine = flags.contains(Modifier.FINAL) && CONSTANTS.contains(made.asType().toString());
                keeps("rule 5: static fields are final constants", tree.getName().toString(), fine);
            }
            return super.visitVariable(tree, none);
        }

        @Override
        public Void visitBlock(BlockTree tree, Void none) {
            if (tree.isStatic()) {
                never("rule 5: no static initialiser block", tree);
            }
            return super.visitBlock(tree, none);
        }

        @Override
        public Void visitMethodInvocation(MethodInvocationTree tree, Void none) {
            lookAtCall(tree);
            return super.visitMethodInvocation(tree, none);
        }

        @Override
        public Void visitNewClass(NewClassTree tree, Void none) {
            lookAtCall(tree);
            return super.visitNewClass(tree, none);
        }

        private void lookAtCall(Tree tree) {
            Element called = trees.getElement(getCurrentPath());
            String owner = called.getEnclosingElement().toString();
            String name = owner + "." + called.getSimpleName();
            if (isOwn(owner)) {
                calls.computeIfAbsent(method, key -> new TreeSet<>()).add(name);
                calls.computeIfAbsent(name, key -> new TreeSet<>());
                return;
            }
            boolean thrown = owner.startsWith("java.lang.") && EXCEPTIONS.contains(owner.substring("java.lang.".length()));
            keeps("rule 4: the library: only what stands here", at(tree) + " " + name, thrown || LIBRARY.contains(name));
        }

        @Override
        public Void visitThrow(ThrowTree tree, Void none) {
            holdsThrow = true;
            boolean isNew = tree.getExpression() instanceof NewClassTree;
            String made = isNew ? ((NewClassTree) tree.getExpression()).getIdentifier().toString() : "";
            keeps("rule 6: throw new E()", at(tree), EXCEPTIONS.contains(made));
            keeps("rule 6: no throw in a constructor", at(tree), !inConstructor);
            return super.visitThrow(tree, none);
        }

        @Override
        public Void visitTry(TryTree tree, Void none) {
            holdsTry = true;
            keeps("rule 6: no finally, no try with resources", at(tree), tree.getFinallyBlock() == null && tree.getResources().isEmpty());
            return super.visitTry(tree, none);
        }

        @Override
        public Void visitBinary(BinaryTree tree, Void none) {
            TypeMirror type = trees.getTypeMirror(getCurrentPath());
            keeps("rule 10: joining texts by StringBuilder (not by +)", at(tree), type == null || !type.toString().equals("java.lang.String"));
            return super.visitBinary(tree, none);
        }

        @Override
        public Void visitLambdaExpression(LambdaExpressionTree tree, Void none) {
            never("rule 2: no lambda", tree);
            return null;
        }

        @Override
        public Void visitMemberReference(MemberReferenceTree tree, Void none) {
            never("rule 2: no method reference", tree);
            return null;
        }

        @Override
        public Void visitSynchronized(SynchronizedTree tree, Void none) {
            never("rule 6: no synchronized", tree);
            return null;
        }

        @Override
        public Void visitAssert(AssertTree tree, Void none) {
            never("rule 6: no assert", tree);
            return null;
        }
    }
}
