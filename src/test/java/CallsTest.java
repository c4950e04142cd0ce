import com.sun.source.tree.ClassTree;
import com.sun.source.tree.CompilationUnitTree;
import com.sun.source.tree.MethodInvocationTree;
import com.sun.source.tree.MethodTree;
import com.sun.source.tree.NewClassTree;
import com.sun.source.util.JavacTask;
import com.sun.source.util.TreePathScanner;
import com.sun.source.util.Trees;
import java.nio.file.Path;
import java.util.HashMap;
import java.util.HashSet;
import java.util.LinkedHashMap;
import java.util.LinkedHashSet;
import java.util.Map;
import java.util.Set;
import javax.lang.model.element.Element;
import javax.lang.model.element.ElementKind;
import javax.tools.JavaCompiler;
import javax.tools.StandardJavaFileManager;
import javax.tools.ToolProvider;

/** How deep the program's methods call one another: rules 8 and 11 of LANGUAGE.md. */
public final class CallsTest {
    private static final int DEEP_MOST = 8;
    /** The one that calls itself: its depth is how many turns a GAME has. */
    private static final String RECURSIVE = "playOut";

    private static final Map<Element, Set<Element>> CALLED = new LinkedHashMap<>();
    private static final Map<Element, Integer> DEPTHS = new HashMap<>();
    private static final Set<Element> OPEN = new HashSet<>();

    public static void main(String[] args) throws Exception {
        gather(Path.of(args[0]));
        Check.due("methods were found", CALLED.size() > 100, true);
        int deepest = 0;
        for (Element method : CALLED.keySet()) {
            int deep = depthOf(method);
            deepest = Math.max(deepest, deep);
            Check.due(nameOf(method) + " goes deeper than eight", deep > DEEP_MOST, false);
        }
        System.out.println("the calls go " + deepest + " deep");
        Check.end();
    }

    private static void gather(Path source) throws Exception {
        JavaCompiler compiler = ToolProvider.getSystemJavaCompiler();
        try (StandardJavaFileManager files = compiler.getStandardFileManager(null, null, null)) {
            JavacTask task = (JavacTask) compiler.getTask(null, files, null, null, null,
                files.getJavaFileObjects(source));
            Iterable<? extends CompilationUnitTree> units = task.parse();
            task.analyze();
            Trees trees = Trees.instance(task);
            for (CompilationUnitTree unit : units) {
                new Gatherer(trees).scan(unit, null);
            }
        }
    }

    private static String nameOf(Element method) {
        return method.getEnclosingElement().getSimpleName() + "." + method;
    }

    /** 1 for a method that calls none of the program's; one that calls itself counts once. */
    private static int depthOf(Element method) {
        Integer known = DEPTHS.get(method);
        if (known != null) {
            return known;
        }
        OPEN.add(method);
        int deepest = 0;
        for (Element called : CALLED.get(method)) {
            if (!CALLED.containsKey(called)) {
                continue;
            }
            if (OPEN.contains(called)) {
                Check.due(nameOf(method) + " calls " + nameOf(called) + ", which is open",
                    called == method && called.getSimpleName().contentEquals(RECURSIVE), true);
            } else {
                deepest = Math.max(deepest, depthOf(called));
            }
        }
        OPEN.remove(method);
        DEPTHS.put(method, deepest + 1);
        return deepest + 1;
    }

    /** Which methods and constructors each one names. */
    private static final class Gatherer extends TreePathScanner<Void, Void> {
        private final Trees trees;
        private Element method;
        private Set<Element> ofFields;

        Gatherer(Trees trees) {
            this.trees = trees;
        }

        @Override
        public Void visitMethod(MethodTree tree, Void nothing) {
            Element outer = method;
            method = trees.getElement(getCurrentPath());
            CALLED.put(method, new LinkedHashSet<>());
            super.visitMethod(tree, nothing);
            method = outer;
            return null;
        }

        @Override
        public Void visitMethodInvocation(MethodInvocationTree tree, Void nothing) {
            note();
            return super.visitMethodInvocation(tree, nothing);
        }

        @Override
        public Void visitNewClass(NewClassTree tree, Void nothing) {
            note();
            return super.visitNewClass(tree, nothing);
        }

        /** A field's first value is made by the constructors of its class. */
        @Override
        public Void visitClass(ClassTree tree, Void nothing) {
            Set<Element> outer = ofFields;
            ofFields = new LinkedHashSet<>();
            super.visitClass(tree, nothing);
            Element owner = trees.getElement(getCurrentPath());
            for (Element member : owner.getEnclosedElements()) {
                if (member.getKind() == ElementKind.CONSTRUCTOR) {
                    CALLED.computeIfAbsent(member, m -> new LinkedHashSet<>()).addAll(ofFields);
                }
            }
            ofFields = outer;
            return null;
        }

        private void note() {
            Element called = trees.getElement(getCurrentPath());
            if (called != null) {
                (method == null ? ofFields : CALLED.get(method)).add(called);
            }
        }
    }
}
