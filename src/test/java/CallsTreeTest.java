import com.sun.source.tree.ClassTree;
import com.sun.source.tree.CompilationUnitTree;
import com.sun.source.tree.MethodInvocationTree;
import com.sun.source.tree.MethodTree;
import com.sun.source.tree.NewClassTree;
import com.sun.source.util.JavacTask;
import com.sun.source.util.TreePathScanner;
import com.sun.source.util.Trees;
import java.io.IOException;
import java.nio.file.Path;
import java.util.ArrayDeque;
import java.util.Deque;
import java.util.List;
import java.util.Map;
import java.util.Set;
import java.util.TreeMap;
import java.util.TreeSet;
import javax.lang.model.element.Element;
import javax.tools.JavaCompiler;
import javax.tools.StandardJavaFileManager;
import javax.tools.ToolProvider;

/** LANGUAGE.md's rules about calls, seen from the source as javac reads it: how deep they go, and into what library. */
public final class CallsTreeTest {
    private static final int DEEPEST = 8;
    /** Of what rule 4 allows, what the class needs. */
    private static final Set<String> LIBRARY = Set.of("java.lang.Math.max(int,int)", "java.lang.Math.min(int,int)",
            "java.lang.Math.min(long,long)", "java.lang.Integer.bitCount(int)", "java.lang.String.length()",
            "java.lang.String.charAt(int)",
            "java.lang.System.arraycopy(java.lang.Object,int,java.lang.Object,int,int)");

    private static final Map<String, Set<String>> CALLED = new TreeMap<>();
    private static final Set<String> OUTSIDE = new TreeSet<>();
    private static final Map<String, Integer> DEPTH = new TreeMap<>();
    private static final Deque<String> WAY = new ArrayDeque<>();
    private static int wrong;

    private CallsTreeTest() { }

    public static void main(String[] args) throws IOException {
        read(Path.of("src/main/java/NestedClips.java"));
        for (String one : OUTSIDE) {
            must(LIBRARY.contains(one), "not of the library that is used: " + one);
        }
        int deepest = 0;
        for (String one : CALLED.keySet()) {
            deepest = Math.max(deepest, depth(one));
            must(depth(one) <= DEEPEST, one + " calls " + depth(one) + " deep");
        }
        must(CALLED.size() > 100, "too few methods were found");
        System.out.println(CALLED.size() + " methods, calls " + deepest + " deep at most");
        System.exit(wrong == 0 ? 0 : 1);
    }

    private static void must(boolean holds, String what) {
        if (!holds) {
            wrong++;
            System.out.println(what);
        }
    }

    /** How many calls stand open at once, this one counted, those into the library not. */
    private static int depth(String method) {
        Integer known = DEPTH.get(method);
        if (known != null) {
            return known;
        }
        if (WAY.contains(method)) {
            must(false, "calls itself: " + method);
            return 0;
        }
        WAY.push(method);
        int below = 0;
        for (String one : CALLED.getOrDefault(method, Set.of())) {
            below = Math.max(below, depth(one));
        }
        WAY.pop();
        DEPTH.put(method, below + 1);
        return below + 1;
    }

    private static void read(Path source) throws IOException {
        JavaCompiler javac = ToolProvider.getSystemJavaCompiler();
        try (StandardJavaFileManager files = javac.getStandardFileManager(null, null, null)) {
            JavacTask task = (JavacTask) javac.getTask(null, files, null, List.of("-proc:none"), null,
                    files.getJavaFileObjects(source));
            Iterable<? extends CompilationUnitTree> units = task.parse();
            task.analyze();
            for (CompilationUnitTree unit : units) {
                new Caller(Trees.instance(task)).scan(unit, null);
            }
        }
    }

    private static final class Caller extends TreePathScanner<Void, String> {
        private final Trees trees;

        Caller(Trees trees) {
            this.trees = trees;
        }

        /** What stands in a class beside its methods belongs to its constructor. */
        @Override
        public Void visitClass(ClassTree tree, String inside) {
            return super.visitClass(tree, trees.getElement(getCurrentPath()) + ".<init>");
        }

        @Override
        public Void visitMethod(MethodTree tree, String inside) {
            String name = nameOf(trees.getElement(getCurrentPath()));
            CALLED.putIfAbsent(name, new TreeSet<>());
            return super.visitMethod(tree, name);
        }

        @Override
        public Void visitMethodInvocation(MethodInvocationTree tree, String inside) {
            note(inside);
            return super.visitMethodInvocation(tree, inside);
        }

        @Override
        public Void visitNewClass(NewClassTree tree, String inside) {
            note(inside);
            return super.visitNewClass(tree, inside);
        }

        private void note(String inside) {
            Element called = trees.getElement(getCurrentPath());
            String name = nameOf(called);
            if (name.startsWith("NestedClips")) {
                CALLED.computeIfAbsent(inside, any -> new TreeSet<>()).add(name);
            } else if (!name.equals("java.lang.Object.<init>")) {
                OUTSIDE.add(name);
            }
        }

        private static String nameOf(Element method) {
            boolean isConstructor = method.getSimpleName().contentEquals("<init>");
            return method.getEnclosingElement() + "." + (isConstructor ? "<init>" : method.toString());
        }
    }
}
