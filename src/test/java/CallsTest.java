import com.sun.source.tree.ClassTree;
import com.sun.source.tree.CompilationUnitTree;
import com.sun.source.tree.ForLoopTree;
import com.sun.source.tree.LiteralTree;
import com.sun.source.tree.MethodInvocationTree;
import com.sun.source.tree.MethodTree;
import com.sun.source.tree.NewClassTree;
import com.sun.source.tree.Tree;
import com.sun.source.tree.VariableTree;
import com.sun.source.util.JavacTask;
import com.sun.source.util.TreePathScanner;
import com.sun.source.util.Trees;
import java.nio.file.Path;
import java.util.ArrayDeque;
import java.util.Deque;
import java.util.List;
import java.util.Map;
import java.util.Set;
import java.util.TreeMap;
import java.util.TreeSet;
import javax.lang.model.element.Element;
import javax.lang.model.element.Modifier;
import javax.tools.JavaCompiler;
import javax.tools.StandardJavaFileManager;
import javax.tools.ToolProvider;

/** Those rules of LANGUAGE.md that need the compiler's eye: what calls what, and how many; run from the project's folder. */
public final class CallsTest {
    // What the class uses of rule 4 and rule 6. What those rules allow beside it joins when it is used.
    private static final Set<String> LIBRARY = Set.of(
        "java.lang.Math.min(int,int)", "java.lang.Math.max(int,int)", "java.lang.Integer.compare(int,int)",
        "java.lang.System.arraycopy(java.lang.Object,int,java.lang.Object,int,int)",
        "java.lang.String.length()", "java.lang.String.charAt(int)", "java.lang.String.String(char[])",
        "java.lang.IllegalStateException.IllegalStateException(java.lang.String)",
        "java.lang.IllegalArgumentException.IllegalArgumentException(java.lang.String)",
        "java.lang.IndexOutOfBoundsException.IndexOutOfBoundsException(java.lang.String)");
    private static final int MOST_DEEP = 8;
    private static final int MOST_PARAMETERS = 7;
    private static final int MOST_CLASSES = 12;
    private static final int MOST_FIELDS = 20;

    private static final Due due = new Due();

    public static void main(String[] args) throws Exception {
        JavaCompiler compiler = ToolProvider.getSystemJavaCompiler();
        try (StandardJavaFileManager files = compiler.getStandardFileManager(null, null, null)) {
            JavacTask task = (JavacTask) compiler.getTask(null, files, null, List.of("--release", "17"), null,
                files.getJavaFileObjects(Path.of("src/main/java/Signrope.java")));
            Iterable<? extends CompilationUnitTree> units = task.parse();
            task.analyze();
            Reader reader = new Reader(Trees.instance(task));
            reader.scan(units, null);
            reader.judge();
        }
        due.end();
    }

    private static final class Reader extends TreePathScanner<Void, Void> {
        private final Trees trees;
        private final Map<String, Set<String>> calls = new TreeMap<>();
        private final Set<String> library = new TreeSet<>();
        private final Map<String, Integer> depths = new TreeMap<>();
        private int classes;

        Reader(Trees trees) {
            this.trees = trees;
        }

        @Override
        public Void visitClass(ClassTree tree, Void nothing) {
            classes++;
            int fields = 0;
            for (Tree member : tree.getMembers()) {
                if (member instanceof VariableTree field && !field.getModifiers().getFlags().contains(Modifier.STATIC)) {
                    fields++;
                }
            }
            due.is("rule 11: " + fields + " fields of " + tree.getSimpleName(), true, fields <= MOST_FIELDS);
            return super.visitClass(tree, nothing);
        }

        @Override
        public Void visitMethod(MethodTree tree, Void nothing) {
            String name = nameOf(trees.getElement(getCurrentPath()));
            calls.computeIfAbsent(name, any -> new TreeSet<>());
            due.is("rule 11: parameters of " + name, true, tree.getParameters().size() <= MOST_PARAMETERS);
            return super.visitMethod(tree, nothing);
        }

        @Override
        public Void visitMethodInvocation(MethodInvocationTree tree, Void nothing) {
            called();
            return super.visitMethodInvocation(tree, nothing);
        }

        @Override
        public Void visitNewClass(NewClassTree tree, Void nothing) {
            called();
            return super.visitNewClass(tree, nothing);
        }

        @Override
        public Void visitForLoop(ForLoopTree tree, Void nothing) {
            due.is("rule 9: a loop tells its end: " + tree, true, tree.getCondition() != null);
            return super.visitForLoop(tree, nothing);
        }

        @Override
        public Void visitLiteral(LiteralTree tree, Void nothing) {
            if (tree.getValue() instanceof String text) {
                due.is("rule 4: the signs of a constant: " + text, true, text.chars().allMatch(sign -> sign > 0 && sign < 128));
            }
            return super.visitLiteral(tree, nothing);
        }

        private void called() {
            Element element = trees.getElement(getCurrentPath());
            String name = nameOf(element);
            Element owner = element.getEnclosingElement();
            if (owner.toString().startsWith("Signrope")) {
                calls.computeIfAbsent(caller(), any -> new TreeSet<>()).add(name);
            } else if (!name.equals("java.lang.Object.Object()")) {
                library.add(name);
            }
        }

        private String caller() {
            for (var path = getCurrentPath(); path != null; path = path.getParentPath()) {
                if (path.getLeaf().getKind() == Tree.Kind.METHOD) {
                    return nameOf(trees.getElement(path));
                }
            }
            return "a field's initialiser";
        }

        private static String nameOf(Element element) {
            return element.getEnclosingElement() + "." + element;
        }

        void judge() {
            library.removeAll(LIBRARY);
            due.is("rule 4: what is called beside the library that is known", Set.of(), library);
            due.is("rule 11: " + classes + " classes", true, classes <= MOST_CLASSES);
            due.is("calls are read from the source", true, calls.containsKey("Signrope.digest()"));
            for (String name : calls.keySet()) {
                due.is("rule 11: how deep " + name + " goes", true, depthOf(name, new ArrayDeque<>()) <= MOST_DEEP);
            }
        }

        private int depthOf(String name, Deque<String> open) {
            Integer known = depths.get(name);
            if (known != null) {
                return known;
            }
            if (open.contains(name)) {
                due.is("rule 8: calls itself, with nothing that tells how deep", "", name);
                return 0;
            }
            open.push(name);
            int deepest = 0;
            for (String called : calls.getOrDefault(name, Set.of())) {
                deepest = Math.max(deepest, depthOf(called, open));
            }
            open.pop();
            depths.put(name, deepest + 1);
            return deepest + 1;
        }
    }
}
