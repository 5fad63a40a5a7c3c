import com.sun.source.tree.ClassTree;
import com.sun.source.tree.CompilationUnitTree;
import com.sun.source.tree.MethodInvocationTree;
import com.sun.source.tree.MethodTree;
import com.sun.source.tree.NewClassTree;
import com.sun.source.util.JavacTask;
import com.sun.source.util.TreePathScanner;
import com.sun.source.util.Trees;
import java.io.IOException;
import java.nio.file.Path;
import java.util.ArrayList;
import java.util.HashMap;
import java.util.LinkedHashMap;
import java.util.List;
import java.util.Map;
import java.util.Set;
import java.util.TreeSet;
import javax.lang.model.element.Element;
import javax.lang.model.element.Modifier;
import javax.tools.JavaCompiler;
import javax.tools.StandardJavaFileManager;
import javax.tools.ToolProvider;

/** Rules 8 and 11 of ../shared/LANGUAGE.md: how deep calls go, and who calls itself, seen in the tree of the class. */
public final class CallDepthTest {
    private static final int DEEPEST = 8;
    private static final int OPEN_AT_ONCE = 300;
    /** The laws' readers go at most this often into one another: six of not [ ( and the outermost. */
    private static final int LEVELS = 7;
    private static final Set<String> READERS = Set.of("Reader.readTruth", "Reader.readBoth", "Reader.readUnit",
            "Reader.readSum", "Reader.readTerm", "Reader.readAtom");

    private final Map<String, Set<String>> calls = new LinkedHashMap<>();
    private final Set<String> open = new TreeSet<>();
    private int wrong = 0;

    private void right(String rule, boolean is) {
        if (!is) {
            wrong++;
            System.out.println("broken: " + rule);
        }
    }

    /** Notes which of the class's own methods and constructors each of them calls. */
    private final class Calls extends TreePathScanner<Void, String> {
        private final Trees trees;

        private Calls(Trees trees) {
            this.trees = trees;
        }

        private String name(Element element) {
            return element.getEnclosingElement().getSimpleName() + "." + element.getSimpleName();
        }

        /** What the fields begin with is done by the constructors. */
        @Override
        public Void visitClass(ClassTree tree, String from) {
            return super.visitClass(tree, tree.getSimpleName() + ".<init>");
        }

        @Override
        public Void visitMethod(MethodTree tree, String from) {
            Element element = trees.getElement(getCurrentPath());
            calls.computeIfAbsent(name(element), n -> new TreeSet<>());
            if (element.getModifiers().contains(Modifier.PUBLIC)) open.add(name(element));
            return super.visitMethod(tree, name(element));
        }

        @Override
        public Void visitMethodInvocation(MethodInvocationTree tree, String from) {
            note(from);
            return super.visitMethodInvocation(tree, from);
        }

        @Override
        public Void visitNewClass(NewClassTree tree, String from) {
            note(from);
            return super.visitNewClass(tree, from);
        }

        private void note(String from) {
            calls.computeIfAbsent(from, n -> new TreeSet<>()).add(name(trees.getElement(getCurrentPath())));
        }
    }

    private void read() throws IOException {
        JavaCompiler compiler = ToolProvider.getSystemJavaCompiler();
        try (StandardJavaFileManager files = compiler.getStandardFileManager(null, null, null)) {
            JavacTask task = (JavacTask) compiler.getTask(null, files, null, List.of("-proc:none"), null,
                    files.getJavaFileObjects(Path.of("src/main/java/FordLine.java")));
            List<CompilationUnitTree> units = new ArrayList<>();
            task.parse().forEach(units::add);
            task.analyze();
            for (CompilationUnitTree unit : units) new Calls(Trees.instance(task)).scan(unit, "");
        }
        for (Set<String> called : calls.values()) called.retainAll(calls.keySet());
    }

    private boolean leadsTo(String from, String to, Set<String> seen) {
        for (String next : calls.get(from)) {
            if (next.equals(to) || seen.add(next) && leadsTo(next, to, seen)) return true;
        }
        return false;
    }

    /** How many calls stand open at once below and with this one, those of the readers of laws counted as told. */
    private int depth(String method, int readers, Map<String, Integer> known) {
        Integer before = known.get(method);
        if (before != null) return before;
        int deepest = 0;
        Set<String> below = new TreeSet<>(calls.get(method));
        if (READERS.contains(method)) {
            for (String reader : READERS) below.addAll(calls.get(reader));
            below.removeAll(READERS);
        }
        for (String next : below) deepest = Math.max(deepest, depth(next, readers, known));
        int all = deepest + (READERS.contains(method) ? readers : 1);
        known.put(method, all);
        return all;
    }

    private void hold() {
        Set<String> again = new TreeSet<>();
        for (String method : calls.keySet()) {
            if (leadsTo(method, method, new TreeSet<>())) again.add(method);
        }
        right("8: only the readers of laws, which carry their depth, call one another again: " + again, again.equals(READERS));
        if (wrong > 0) return;
        Map<String, Integer> plain = new HashMap<>();
        Map<String, Integer> all = new HashMap<>();
        int deepest = 0;
        for (String method : open) {
            deepest = Math.max(deepest, depth(method, 1, plain));
            right("11: at most eight deep: " + method + " " + plain.get(method), plain.get(method) <= DEEPEST);
            int most = depth(method, LEVELS * READERS.size(), all);
            right("8: under 300 open: " + method + " " + most, most < OPEN_AT_ONCE);
        }
        right("the 45 calls and the constructor were seen: " + open.size(), open.size() == 46);
        System.out.println("calls go " + deepest + " deep");
    }

    public static void main(String[] args) throws IOException {
        CallDepthTest test = new CallDepthTest();
        test.read();
        test.hold();
        if (test.wrong > 0) System.exit(1);
    }
}
