import com.sun.source.tree.ClassTree;
import com.sun.source.tree.CompilationUnitTree;
import com.sun.source.tree.MethodInvocationTree;
import com.sun.source.tree.MethodTree;
import com.sun.source.tree.NewClassTree;
import com.sun.source.tree.Tree;
import com.sun.source.util.JavacTask;
import com.sun.source.util.TreePathScanner;
import com.sun.source.util.Trees;
import java.io.File;
import java.io.IOException;
import java.util.LinkedHashMap;
import java.util.LinkedHashSet;
import java.util.List;
import java.util.Map;
import java.util.Set;
import javax.lang.model.element.Element;
import javax.lang.model.element.TypeElement;
import javax.lang.model.type.ArrayType;
import javax.lang.model.type.DeclaredType;
import javax.lang.model.type.TypeMirror;
import javax.tools.JavaCompiler;
import javax.tools.StandardJavaFileManager;
import javax.tools.ToolProvider;

/** A Java file as the compiler itself sees it: its tree, what each name stands for, and which method calls which. */
final class Source {
    final CompilationUnitTree unit;
    final Trees trees;
    final Set<Element> classes = new LinkedHashSet<>();
    final Map<Element, MethodTree> methods = new LinkedHashMap<>();
    /** What each method calls, in the file and outside of it. */
    final Map<Element, Set<Element>> calls = new LinkedHashMap<>();

    Source(File file) throws IOException {
        JavaCompiler compiler = ToolProvider.getSystemJavaCompiler();
        StandardJavaFileManager files = compiler.getStandardFileManager(null, null, null);
        JavacTask task = (JavacTask) compiler.getTask(null, files, null, List.of("-proc:none"), null,
                files.getJavaFileObjects(file));
        unit = task.parse().iterator().next();
        task.analyze();
        trees = Trees.instance(task);
        new Gatherer().scan(unit, null);
    }

    long lineOf(Tree tree) {
        return unit.getLineMap().getLineNumber(trees.getSourcePositions().getStartPosition(unit, tree));
    }

    int linesOf(Tree tree) {
        long end = unit.getLineMap().getLineNumber(trees.getSourcePositions().getEndPosition(unit, tree));
        return (int) (end - lineOf(tree) + 1);
    }

    boolean isOwn(TypeMirror type) {
        return type instanceof DeclaredType && classes.contains(((DeclaredType) type).asElement());
    }

    /** A number, a boolean, a class of the file, or an array of one dimension of these. */
    boolean isPlain(TypeMirror type) {
        TypeMirror inner = type instanceof ArrayType ? ((ArrayType) type).getComponentType() : type;
        return inner.getKind().isPrimitive() || isOwn(inner);
    }

    /** How many methods stand open at once below and with this one, each recursion counted once. */
    int deepest(Element method, Set<Element> open) {
        int most = 0;
        open.add(method);
        for (Element called : calls.getOrDefault(method, Set.of())) {
            if (methods.containsKey(called) && !open.contains(called)) {
                most = Math.max(most, deepest(called, open));
            }
        }
        open.remove(method);
        return most + 1;
    }

    /** Whether a method comes back to itself through any calls. */
    boolean recurs(Element method) {
        Set<Element> reached = new LinkedHashSet<>();
        reach(method, reached);
        return reached.contains(method);
    }

    private void reach(Element from, Set<Element> reached) {
        for (Element called : calls.getOrDefault(from, Set.of())) {
            if (reached.add(called)) {
                reach(called, reached);
            }
        }
    }

    private final class Gatherer extends TreePathScanner<Void, Element> {
        @Override
        public Void visitClass(ClassTree tree, Element within) {
            Element type = trees.getElement(getCurrentPath());
            classes.add(type);
            return super.visitClass(tree, type);
        }

        @Override
        public Void visitMethod(MethodTree tree, Element within) {
            Element method = trees.getElement(getCurrentPath());
            methods.put(method, tree);
            return super.visitMethod(tree, method);
        }

        @Override
        public Void visitMethodInvocation(MethodInvocationTree tree, Element within) {
            note(within);
            return super.visitMethodInvocation(tree, within);
        }

        @Override
        public Void visitNewClass(NewClassTree tree, Element within) {
            note(within);
            return super.visitNewClass(tree, within);
        }

        private void note(Element within) {
            // What a field's first value calls is counted with the class, since no method stands around it.
            calls.computeIfAbsent(within, any -> new LinkedHashSet<>()).add(trees.getElement(getCurrentPath()));
        }
    }

    static String nameOf(Element element) {
        Element within = element.getEnclosingElement();
        return within instanceof TypeElement ? within.getSimpleName() + "." + element.getSimpleName()
                : element.getSimpleName().toString();
    }
}
