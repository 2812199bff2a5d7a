import com.sun.source.tree.ClassTree;
import com.sun.source.tree.CompilationUnitTree;
import com.sun.source.tree.MethodInvocationTree;
import com.sun.source.tree.MethodTree;
import com.sun.source.tree.NewArrayTree;
import com.sun.source.tree.NewClassTree;
import com.sun.source.tree.Tree;
import com.sun.source.tree.VariableTree;
import com.sun.source.util.JavacTask;
import com.sun.source.util.TreePath;
import com.sun.source.util.TreePathScanner;
import com.sun.source.util.Trees;
import java.io.IOException;
import java.nio.file.Path;
import java.util.ArrayList;
import java.util.EnumSet;
import java.util.HashMap;
import java.util.List;
import java.util.Map;
import java.util.Set;
import java.util.TreeMap;
import java.util.TreeSet;
import javax.lang.model.element.Element;
import javax.lang.model.element.ElementKind;
import javax.lang.model.element.Modifier;
import javax.tools.JavaCompiler;
import javax.tools.StandardJavaFileManager;
import javax.tools.ToolProvider;

/** What the compiler's own trees tell of a program's form. */
final class ProgramForm extends TreePathScanner<Void, Void> {
    final Set<Tree.Kind> kinds = EnumSet.noneOf(Tree.Kind.class);
    final Set<String> librarysMembers = new TreeSet<>();
    final Set<String> staticTypes = new TreeSet<>();
    final Set<String> staticsNotFinal = new TreeSet<>();
    final Set<String> makersOfObjects = new TreeSet<>();
    final Map<String, Integer> fieldsOfClasses = new TreeMap<>();
    final Map<String, Integer> linesOfMethods = new TreeMap<>();
    final Map<String, Integer> parametersOfMethods = new TreeMap<>();
    final List<Element> methods = new ArrayList<>();
    private final Map<Element, List<Element>> calls = new HashMap<>();
    private final Trees trees;
    private final CompilationUnitTree unit;
    // Null outside methods, where the fields' values are written.
    private Element method = null;

    private ProgramForm(Trees trees, CompilationUnitTree unit) {
        this.trees = trees;
        this.unit = unit;
    }

    static ProgramForm of(Path file) throws IOException {
        JavaCompiler compiler = ToolProvider.getSystemJavaCompiler();
        try (StandardJavaFileManager files = compiler.getStandardFileManager(null, null, null)) {
            JavacTask task = (JavacTask) compiler.getTask(null, files, null, List.of("-proc:none"), null,
                files.getJavaFileObjects(file));
            CompilationUnitTree unit = task.parse().iterator().next();
            task.analyze();
            ProgramForm form = new ProgramForm(Trees.instance(task), unit);
            form.scan(unit, null);
            return form;
        }
    }

    /** How many calls stand open at once, the library's among them; more than the limit for a call of itself. */
    int depth(int limit) {
        int deepest = 0;
        for (Element from : methods) {
            deepest = Math.max(deepest, depthFrom(from, limit));
        }
        return deepest;
    }

    private int depthFrom(Element from, int limit) {
        int below = 0;
        if (limit > 0) {
            for (Element called : calls.getOrDefault(from, List.of())) {
                below = Math.max(below, depthFrom(called, limit - 1));
            }
        }
        return below + 1;
    }

    @Override
    public Void scan(Tree tree, Void none) {
        if (tree != null) {
            kinds.add(tree.getKind());
        }
        return super.scan(tree, none);
    }

    @Override
    public Void visitClass(ClassTree tree, Void none) {
        int fields = 0;
        for (Tree member : tree.getMembers()) {
            if (member instanceof VariableTree field) {
                if (field.getModifiers().getFlags().contains(Modifier.STATIC)) {
                    lookAtStatic(field);
                } else {
                    fields++;
                }
            }
        }
        fieldsOfClasses.put(tree.getSimpleName().toString(), fields);
        return super.visitClass(tree, none);
    }

    private void lookAtStatic(VariableTree field) {
        staticTypes.add(field.getType().toString());
        if (!field.getModifiers().getFlags().contains(Modifier.FINAL)) {
            staticsNotFinal.add(field.getName().toString());
        }
    }

    @Override
    public Void visitMethod(MethodTree tree, Void none) {
        method = trees.getElement(getCurrentPath());
        methods.add(method);
        String name = nameOf(method);
        linesOfMethods.merge(name, lineOf(endOf(tree)) - lineOf(startOf(tree)) + 1, Math::max);
        parametersOfMethods.merge(name, tree.getParameters().size(), Math::max);
        super.visitMethod(tree, none);
        method = null;
        return null;
    }

    @Override
    public Void visitMethodInvocation(MethodInvocationTree tree, Void none) {
        addCall(trees.getElement(new TreePath(getCurrentPath(), tree.getMethodSelect())));
        return super.visitMethodInvocation(tree, none);
    }

    @Override
    public Void visitNewClass(NewClassTree tree, Void none) {
        addMaker();
        addCall(trees.getElement(getCurrentPath()));
        return super.visitNewClass(tree, none);
    }

    @Override
    public Void visitNewArray(NewArrayTree tree, Void none) {
        addMaker();
        return super.visitNewArray(tree, none);
    }

    private void addCall(Element called) {
        if (trees.getPath(called) == null) {
            librarysMembers.add(nameOf(called));
        }
        if (method != null) {
            calls.computeIfAbsent(method, m -> new ArrayList<>()).add(called);
        }
    }

    private void addMaker() {
        if (method != null && method.getKind() != ElementKind.CONSTRUCTOR) {
            makersOfObjects.add(nameOf(method));
        }
    }

    static String nameOf(Element member) {
        return member.getEnclosingElement().getSimpleName() + "." + member.getSimpleName();
    }

    private long startOf(Tree tree) {
        return trees.getSourcePositions().getStartPosition(unit, tree);
    }

    private long endOf(Tree tree) {
        return trees.getSourcePositions().getEndPosition(unit, tree);
    }

    private int lineOf(long position) {
        return position < 0 ? 0 : (int) unit.getLineMap().getLineNumber(position);
    }
}
