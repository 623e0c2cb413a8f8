import com.sun.source.tree.ClassTree;
import com.sun.source.tree.CompilationUnitTree;
import com.sun.source.tree.MethodInvocationTree;
import com.sun.source.tree.MethodTree;
import com.sun.source.tree.Tree;
import com.sun.source.util.JavacTask;
import com.sun.source.util.TreePath;
import com.sun.source.util.TreePathScanner;
import com.sun.source.util.Trees;
import java.io.IOException;
import java.nio.file.Path;
import java.util.ArrayList;
import java.util.LinkedHashMap;
import java.util.LinkedHashSet;
import java.util.List;
import java.util.Map;
import java.util.Set;
import javax.lang.model.element.Element;
import javax.tools.JavaCompiler;
import javax.tools.StandardJavaFileManager;
import javax.tools.ToolProvider;

/** The class's source as javac reads it, with what each name in it means. */
final class SourceTree {
    private final CompilationUnitTree unit;
    private final Trees trees;

    SourceTree(Path source) throws IOException {
        JavaCompiler compiler = ToolProvider.getSystemJavaCompiler();
        try (StandardJavaFileManager files = compiler.getStandardFileManager(null, null, null)) {
            JavacTask task = (JavacTask) compiler.getTask(null, files, null, List.of("--release", "17", "-proc:none"),
                    null, files.getJavaFileObjects(source));
            unit = task.parse().iterator().next();
            task.analyze();
            trees = Trees.instance(task);
        }
    }

    CompilationUnitTree unit() {
        return unit;
    }

    /** Every part of the source with its way from the top, in the order of the source. */
    List<TreePath> all() {
        List<TreePath> found = new ArrayList<>();
        new TreePathScanner<Void, Void>() {
            @Override
            public Void scan(Tree tree, Void none) {
                if (tree == null || isAdded(tree)) {
                    return null;
                }
                found.add(new TreePath(getCurrentPath(), tree));
                return super.scan(tree, none);
            }
        }.scan(new TreePath(unit), null);
        return found;
    }

    <T extends Tree> List<T> all(Class<T> kind) {
        List<T> found = new ArrayList<>();
        for (TreePath path : all()) {
            if (kind.isInstance(path.getLeaf())) {
                found.add(kind.cast(path.getLeaf()));
            }
        }
        return found;
    }

    Element meaning(TreePath path) {
        return trees.getElement(path);
    }

    boolean isPrimitive(TreePath path) {
        return trees.getTypeMirror(path).getKind().isPrimitive();
    }

    int lineOf(Tree tree) {
        return lineAt(trees.getSourcePositions().getStartPosition(unit, tree));
    }

    int linesOf(Tree tree) {
        return lineAt(trees.getSourcePositions().getEndPosition(unit, tree)) - lineOf(tree) + 1;
    }

    /** Which methods of the file each method of the file calls. */
    Map<Element, Set<Element>> calls() {
        Map<Element, Set<Element>> calls = new LinkedHashMap<>();
        for (TreePath path : all()) {
            if (path.getLeaf() instanceof MethodTree) {
                calls.put(meaning(path), new LinkedHashSet<>());
            }
        }
        for (TreePath path : all()) {
            Element caller = path.getLeaf() instanceof MethodInvocationTree ? enclosingMethod(path) : null;
            if (caller != null && calls.containsKey(meaning(path))) {
                calls.get(caller).add(meaning(path));
            }
        }
        return calls;
    }

    static boolean isInside(TreePath path, Class<? extends Tree> kind) {
        for (TreePath up = path.getParentPath(); up != null; up = up.getParentPath()) {
            if (kind.isInstance(up.getLeaf())) {
                return true;
            }
        }
        return false;
    }

    static boolean isMember(TreePath path) {
        return path.getParentPath() != null && path.getParentPath().getLeaf() instanceof ClassTree;
    }

    private Element enclosingMethod(TreePath path) {
        for (TreePath up = path; up != null; up = up.getParentPath()) {
            if (up.getLeaf() instanceof MethodTree) {
                return meaning(up);
            }
        }
        return null;
    }

    /** What the compiler has added itself (a constructor, a call of super) has no end in the source. */
    private boolean isAdded(Tree tree) {
        return trees.getSourcePositions().getEndPosition(unit, tree) < 0;
    }

    private int lineAt(long position) {
        return (int) unit.getLineMap().getLineNumber(position);
    }
}
