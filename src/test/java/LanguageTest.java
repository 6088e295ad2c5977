import com.sun.source.tree.ClassTree;
import com.sun.source.tree.CompilationUnitTree;
import com.sun.source.tree.LineMap;
import com.sun.source.tree.MemberSelectTree;
import com.sun.source.tree.MethodInvocationTree;
import com.sun.source.tree.MethodTree;
import com.sun.source.tree.Tree;
import com.sun.source.tree.VariableTree;
import com.sun.source.util.JavacTask;
import com.sun.source.util.SourcePositions;
import com.sun.source.util.TreeScanner;
import com.sun.source.util.Trees;
import java.io.File;
import java.util.ArrayDeque;
import java.util.ArrayList;
import java.util.Deque;
import java.util.HashMap;
import java.util.HashSet;
import java.util.List;
import java.util.Map;
import java.util.Set;
import java.util.TreeMap;
import java.util.TreeSet;
import javax.lang.model.element.Modifier;
import javax.tools.JavaCompiler;
import javax.tools.StandardJavaFileManager;
import javax.tools.ToolProvider;

/** What of the rules of LANGUAGE.md can be read from the source. */
public final class LanguageTest {
    private static final Due DUE = new Due("LanguageTest");
    private static final String FILE = "src/main/java/DraughtWebs.java";
    private static final Set<Tree.Kind> BANNED = Set.of(Tree.Kind.THROW, Tree.Kind.TRY, Tree.Kind.CATCH,
            Tree.Kind.SYNCHRONIZED, Tree.Kind.ASSERT, Tree.Kind.LAMBDA_EXPRESSION, Tree.Kind.MEMBER_REFERENCE,
            Tree.Kind.IMPORT, Tree.Kind.PACKAGE, Tree.Kind.INSTANCE_OF, Tree.Kind.TYPE_CAST);
    private static final Set<String> LIBRARY = Set.of("Math.max", "Math.min", "Math.abs", "Integer.bitCount",
            "System.arraycopy");
    private static final String FACE = "tension feed law chart hours tried webIs fleetIs feels when fix bearings "
            + "allTheSea quiet nearest share log inCommon code crawls hangs smoothed spell salutes rent seed keep undo "
            + "check count";

    private LanguageTest() {
    }

    public static void main(String[] args) throws Exception {
        JavaCompiler compiler = ToolProvider.getSystemJavaCompiler();
        try (StandardJavaFileManager files = compiler.getStandardFileManager(null, null, null)) {
            JavacTask task = (JavacTask) compiler.getTask(null, files, null, null, null,
                    files.getJavaFileObjects(new File(FILE)));
            CompilationUnitTree unit = task.parse().iterator().next();
            Reader reader = new Reader(unit, Trees.instance(task).getSourcePositions());
            reader.scan(unit, null);
            DUE.is("classes", reader.classes <= 12, true);
            DUE.is("face", reader.face.equals(new TreeSet<>(List.of(FACE.split(" ")))), true);
            DUE.is("private names", reader.others.stream().noneMatch(reader.face::contains), true);
            DUE.is("calls deep: " + reader.deepest(), reader.deepest() <= 8, true);
        }
        DUE.end();
    }

    private static final class Reader extends TreeScanner<Void, Void> {
        final Set<String> face = new TreeSet<>();
        final Set<String> others = new TreeSet<>();
        int classes = 0;
        private final CompilationUnitTree unit;
        private final SourcePositions positions;
        private final Deque<ClassTree> open = new ArrayDeque<>();
        private final Map<String, Set<String>> calls = new TreeMap<>();
        private String method = "";

        Reader(CompilationUnitTree unit, SourcePositions positions) {
            this.unit = unit;
            this.positions = positions;
        }

        @Override
        public Void scan(Tree tree, Void nothing) {
            if (tree != null) {
                DUE.is(tree.getKind() + " " + line(tree), BANNED.contains(tree.getKind()), false);
            }
            return super.scan(tree, nothing);
        }

        private long line(Tree tree) {
            LineMap lines = unit.getLineMap();
            long start = positions.getStartPosition(unit, tree);
            return start < 0 ? 0 : lines.getLineNumber(start);
        }

        private long lines(Tree tree) {
            LineMap lines = unit.getLineMap();
            return lines.getLineNumber(positions.getEndPosition(unit, tree)) - line(tree) + 1;
        }

        @Override
        public Void visitClass(ClassTree tree, Void nothing) {
            classes++;
            Set<Modifier> is = tree.getModifiers().getFlags();
            if (open.isEmpty()) {
                DUE.is("public final", is.containsAll(Set.of(Modifier.PUBLIC, Modifier.FINAL)), true);
            } else {
                DUE.is(tree.getSimpleName() + " is static", is.contains(Modifier.STATIC), true);
                DUE.is(tree.getSimpleName() + " is not public", is.contains(Modifier.PUBLIC), false);
            }
            long fields = tree.getMembers().stream().filter(m -> m instanceof VariableTree v
                    && !v.getModifiers().getFlags().contains(Modifier.STATIC)).count();
            DUE.is(tree.getSimpleName() + "'s fields", fields <= 20, true);
            open.push(tree);
            super.visitClass(tree, nothing);
            open.pop();
            return null;
        }

        @Override
        public Void visitVariable(VariableTree tree, Void nothing) {
            Set<Modifier> is = tree.getModifiers().getFlags();
            if (method.isEmpty() && is.contains(Modifier.STATIC)) {
                DUE.is(tree.getName() + " is final", is.contains(Modifier.FINAL), true);
            }
            if (method.isEmpty() && open.size() == 1 && !is.contains(Modifier.PUBLIC)) {
                DUE.is(tree.getName() + " is private", is.contains(Modifier.PRIVATE), true);
            }
            return super.visitVariable(tree, nothing);
        }

        @Override
        public Void visitMethod(MethodTree tree, Void nothing) {
            String name = tree.getName().toString();
            boolean isPublic = tree.getModifiers().getFlags().contains(Modifier.PUBLIC);
            if (!name.equals("<init>")) {
                (isPublic ? face : others).add(name);
                DUE.is(name + " is public in the face only", isPublic && open.size() > 1, false);
            }
            DUE.is(name + "'s lines", lines(tree) <= 60, true);
            DUE.is(name + "'s parameters", tree.getParameters().size() <= 7, true);
            method = open.peek().getSimpleName() + "." + name;
            calls.computeIfAbsent(method, key -> new TreeSet<>());
            super.visitMethod(tree, nothing);
            method = "";
            return null;
        }

        @Override
        public Void visitMethodInvocation(MethodInvocationTree tree, Void nothing) {
            if (tree.getMethodSelect() instanceof MemberSelectTree select) {
                String whole = select.toString();
                String from = select.getExpression().toString();
                boolean library = Set.of("Math", "Integer", "System", "Long", "Arrays").contains(from);
                DUE.is(whole + " is allowed", !library || LIBRARY.contains(whole), true);
                if (!library) {
                    calls.get(method).add("*." + select.getIdentifier());
                }
            } else {
                calls.get(method).add(open.peek().getSimpleName() + "." + tree.getMethodSelect());
            }
            return super.visitMethodInvocation(tree, nothing);
        }

        @Override
        public Void visitNewArray(com.sun.source.tree.NewArrayTree tree, Void nothing) {
            DUE.is("an array is made in " + method, method.isEmpty() || method.endsWith("<init>"), true);
            return super.visitNewArray(tree, nothing);
        }

        @Override
        public Void visitNewClass(com.sun.source.tree.NewClassTree tree, Void nothing) {
            DUE.is("an object is made in " + method, method.isEmpty() || method.endsWith("<init>"), true);
            return super.visitNewClass(tree, nothing);
        }

        /** Calls that stand open at once; methods that call one another count once. */
        int deepest() {
            int deepest = 0;
            for (String start : calls.keySet()) {
                deepest = Math.max(deepest, depth(start, new HashSet<>(), new HashMap<>()));
            }
            return deepest;
        }

        private int depth(String at, Set<String> above, Map<String, Integer> known) {
            if (known.containsKey(at)) {
                return known.get(at);
            }
            above.add(at);
            int most = 0;
            for (String next : targets(at)) {
                if (!above.contains(next)) {
                    int one = isRecursion(at, next) ? 0 : 1;
                    most = Math.max(most, depth(next, above, new HashMap<>()) - 1 + one);
                }
            }
            above.remove(at);
            known.put(at, most + 1);
            return most + 1;
        }

        private boolean isRecursion(String a, String b) {
            return reaches(b, a, new HashSet<>());
        }

        private boolean reaches(String from, String to, Set<String> seen) {
            if (from.equals(to)) {
                return true;
            }
            return seen.add(from) && targets(from).stream().anyMatch(next -> reaches(next, to, seen));
        }

        private List<String> targets(String at) {
            List<String> targets = new ArrayList<>();
            for (String call : calls.get(at)) {
                String name = call.substring(call.indexOf('.') + 1);
                for (String key : calls.keySet()) {
                    String own = key.substring(key.indexOf('.') + 1);
                    boolean same = call.startsWith("*") || key.equals(call) || name.equals("within");
                    if (own.equals(name) && same) {
                        targets.add(key);
                    }
                }
            }
            return targets;
        }
    }
}
