import com.sun.source.tree.ClassTree;
import com.sun.source.tree.CompilationUnitTree;
import com.sun.source.tree.MethodInvocationTree;
import com.sun.source.tree.MethodTree;
import com.sun.source.tree.NewArrayTree;
import com.sun.source.tree.NewClassTree;
import com.sun.source.tree.Tree;
import com.sun.source.tree.VariableTree;
import com.sun.source.util.JavacTask;
import com.sun.source.util.TreePath;
import com.sun.source.util.TreePathScanner;
import com.sun.source.util.Trees;
import java.io.File;
import java.util.ArrayDeque;
import java.util.ArrayList;
import java.util.Deque;
import java.util.HashSet;
import java.util.List;
import java.util.Map;
import java.util.Set;
import java.util.TreeMap;
import java.util.TreeSet;
import javax.lang.model.element.Element;
import javax.tools.JavaCompiler;
import javax.tools.StandardJavaFileManager;
import javax.tools.ToolProvider;

/**
 * LANGUAGE.md's rules of calls, by the compiler's own reading of the source: the library that rule 4 leaves, how deep
 * calls go (8, 11), what is made where (12), and how the classes are laid out (1, 2, 11).
 */
public final class SourceCalls {
    private static final Set<String> LIBRARY = Set.of("System.arraycopy", "Array.clone", "Object.clone",
        "Arrays.fill", "Arrays.copyOf", "Arrays.copyOfRange",
        "Math.min", "Math.max", "Math.abs", "Math.floorDiv", "Math.floorMod",
        "Integer.compare", "Integer.min", "Integer.max", "Integer.bitCount",
        "Long.compare", "Long.min", "Long.max", "Long.bitCount",
        "String.length", "String.charAt", "String.isEmpty", "String.equals", "String.indexOf", "String.substring",
        "String.toCharArray");
    private static final Set<String> FACE = Set.of("set", "dancer", "told", "asks", "feed", "text", "force", "dance",
        "round", "night", "strike", "run", "best", "share", "tells", "film", "drawn", "chance", "image", "back", "count",
        "sheet", "cell", "copy", "room", "taken");

    private static final Map<String, Set<String>> calls = new TreeMap<>();
    private static final Set<String> makers = new TreeSet<>();
    private static int failed;

    private static void must(boolean is, String what) {
        if (!is) {
            failed++;
            System.out.println("not so: " + what);
        }
    }

    public static void main(String[] args) throws Exception {
        JavaCompiler compiler = ToolProvider.getSystemJavaCompiler();
        try (StandardJavaFileManager files = compiler.getStandardFileManager(null, null, null)) {
            JavacTask task = (JavacTask) compiler.getTask(null, files, null, List.of("-proc:none"), null,
                files.getJavaFileObjects(new File(args.length > 0 ? args[0] : "src/main/java/DanceStillOwed.java")));
            Iterable<? extends CompilationUnitTree> units = task.parse();
            task.analyze();
            for (CompilationUnitTree unit : units) {
                must(unit.getPackageName() == null && unit.getImports().isEmpty(), "no package, no import");
                new Reader(Trees.instance(task), unit).scan(unit, null);
            }
        }
        depth();
        for (String maker : makers) {
            must(maker.contains("<init>") || maker.equals("Reader.read"), "nothing is made by " + maker);
        }
        System.out.println("SourceCalls: " + calls.size() + " methods, " + (failed == 0 ? "all stand" : failed + " do not stand"));
        if (failed > 0) {
            System.exit(1);
        }
    }

    /** Calls that are no recursion go at most eight deep; what calls itself, or one another, counts as one. */
    private static void depth() {
        must(calls.size() > 60, "methods are found");
        Map<String, Set<String>> reached = new TreeMap<>();
        for (String m : calls.keySet()) {
            reached.put(m, reachedFrom(m));
        }
        for (String m : calls.keySet()) {
            int deep = deep(m, reached, 0);
            must(deep <= 8, m + " goes " + deep + " deep");
            if (reached.get(m).contains(m)) {
                must(RECURSIVE.contains(m), m + " calls itself, with no depth that is known to end");
            }
        }
    }

    /** Each carries its depth (clears, longest), or is held by how many may be open (the grammar). */
    private static final Set<String> RECURSIVE = Set.of("DanceStillOwed.clears", "Floor.longest", "Reader.either",
        "Reader.both", "Reader.denied", "Reader.compared", "Reader.sum", "Reader.term", "Reader.one");

    private static Set<String> reachedFrom(String m) {
        Set<String> seen = new HashSet<>();
        Deque<String> left = new ArrayDeque<>(calls.get(m));
        while (!left.isEmpty()) {
            String next = left.pop();
            if (seen.add(next)) {
                left.addAll(calls.getOrDefault(next, Set.of()));
            }
        }
        return seen;
    }

    private static int deep(String m, Map<String, Set<String>> reached, int above) {
        if (above > 40) {
            return above;
        }
        int most = 0;
        Set<String> ring = new TreeSet<>(Set.of(m));
        for (String other : reached.get(m)) {
            if (reached.containsKey(other) && reached.get(other).contains(m)) {
                ring.add(other);
            }
        }
        for (String one : ring) {
            for (String next : calls.get(one)) {
                if (!ring.contains(next)) {
                    most = Math.max(most, deep(next, reached, above + 1));
                }
            }
        }
        return most + 1;
    }

    private static final class Reader extends TreePathScanner<Void, Void> {
        private final Trees trees;
        private final CompilationUnitTree unit;
        private String inside = "";
        private int classes;

        Reader(Trees trees, CompilationUnitTree unit) {
            this.trees = trees;
            this.unit = unit;
        }

        @Override
        public Void visitClass(ClassTree c, Void v) {
            classes++;
            must(classes <= 12, "twelve classes");
            int fields = 0;
            for (Tree member : c.getMembers()) {
                if (member instanceof VariableTree
                    && !((VariableTree) member).getModifiers().getFlags().contains(javax.lang.model.element.Modifier.STATIC)) {
                    fields++;
                }
            }
            must(fields <= 20, "twenty fields: " + c.getSimpleName());
            String was = inside;
            inside = c.getSimpleName() + ".<init>";
            calls.putIfAbsent(inside, new TreeSet<>());
            super.visitClass(c, v);
            inside = was;
            return null;
        }

        @Override
        public Void visitMethod(MethodTree m, Void v) {
            String was = inside;
            String name = m.getName().toString();
            String owner = was.substring(0, was.indexOf('.'));
            inside = owner + "." + name;
            calls.putIfAbsent(inside, new TreeSet<>());
            boolean open = m.getModifiers().getFlags().contains(javax.lang.model.element.Modifier.PUBLIC);
            must(open == (owner.equals("DanceStillOwed") && (FACE.contains(name) || name.equals("<init>"))), "of the face, or not: " + inside);
            must(open || !FACE.contains(name), "bears the name of a public one: " + inside);
            must(m.getParameters().size() <= 7, "seven parameters: " + inside);
            long lines = line(m, true) - line(m, false) + 1;
            must(lines <= 60, "sixty lines: " + inside);
            must(m.getThrows().isEmpty(), "throws nothing: " + inside);
            super.visitMethod(m, v);
            inside = was;
            return null;
        }

        private long line(Tree t, boolean end) {
            long at = end ? trees.getSourcePositions().getEndPosition(unit, t) : trees.getSourcePositions().getStartPosition(unit, t);
            return at < 0 ? 0 : unit.getLineMap().getLineNumber(at);
        }

        @Override
        public Void visitMethodInvocation(MethodInvocationTree call, Void v) {
            Element called = trees.getElement(new TreePath(getCurrentPath(), call.getMethodSelect()));
            must(called != null, "a call that is known: " + call);
            if (called != null) {
                goesTo(called.getEnclosingElement().getSimpleName() + "." + called.getSimpleName());
            }
            return super.visitMethodInvocation(call, v);
        }

        @Override
        public Void visitNewClass(NewClassTree made, Void v) {
            must(made.getClassBody() == null, "no class without a name: " + made);
            goesTo(made.getIdentifier() + ".<init>");
            makers.add(inside);
            return super.visitNewClass(made, v);
        }

        @Override
        public Void visitNewArray(NewArrayTree made, Void v) {
            makers.add(inside);
            return super.visitNewArray(made, v);
        }

        private void goesTo(String name) {
            if (name.endsWith(".clone")) {
                makers.add(inside);
            }
            if (name.equals("Object.<init>")) {
                return;
            }
            String owner = name.substring(0, name.indexOf('.'));
            if (OWN.contains(owner)) {
                calls.get(inside).add(name);
            } else {
                must(LIBRARY.contains(name), "no library but rule 4's: " + name + " in " + inside);
            }
        }
    }

    private static final Set<String> OWN = Set.of("DanceStillOwed", "Floor", "Sheet", "Text", "Rules", "Reader");
}
