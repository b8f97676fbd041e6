import com.sun.source.tree.BlockTree;
import com.sun.source.tree.ClassTree;
import com.sun.source.tree.CompilationUnitTree;
import com.sun.source.tree.EnhancedForLoopTree;
import com.sun.source.tree.ForLoopTree;
import com.sun.source.tree.IdentifierTree;
import com.sun.source.tree.MemberSelectTree;
import com.sun.source.tree.MethodInvocationTree;
import com.sun.source.tree.MethodTree;
import com.sun.source.tree.NewArrayTree;
import com.sun.source.tree.NewClassTree;
import com.sun.source.tree.Tree;
import com.sun.source.tree.VariableTree;
import com.sun.source.util.JavacTask;
import com.sun.source.util.TreePathScanner;
import com.sun.source.util.Trees;
import java.io.File;
import java.io.IOException;
import java.io.UncheckedIOException;
import java.util.ArrayList;
import java.util.EnumSet;
import java.util.List;
import java.util.Map;
import java.util.Set;
import java.util.TreeMap;
import java.util.TreeSet;
import javax.lang.model.element.Modifier;
import javax.tools.JavaCompiler;
import javax.tools.StandardJavaFileManager;
import javax.tools.ToolProvider;

/** What the compiler reads in a source file, sorted by what the rules of LANGUAGE.md ask about. */
final class SourceTree extends TreePathScanner<Void, Void> {
    private static final String CONSTRUCTOR = "<init>";

    final Set<Tree.Kind> kinds = EnumSet.noneOf(Tree.Kind.class);
    final List<ClassTree> classes = new ArrayList<>();
    /** All but the constructors. */
    final List<MethodTree> methods = new ArrayList<>();
    final List<VariableTree> variables = new ArrayList<>();
    final List<VariableTree> fields = new ArrayList<>();
    final List<NewClassTree> made = new ArrayList<>();
    final List<ForLoopTree> loops = new ArrayList<>();
    final List<EnhancedForLoopTree> loopsOver = new ArrayList<>();
    final Set<String> staticUses = new TreeSet<>();
    /** For each method's name the names of what it calls. */
    final Map<String, Set<String>> calls = new TreeMap<>();
    final List<String> madeInMethods = new ArrayList<>();
    final List<String> calledInConstructors = new ArrayList<>();
    int imports;
    int classBlocks;

    private final CompilationUnitTree unit;
    private final Trees trees;
    private MethodTree inside;

    SourceTree(File file) {
        JavaCompiler compiler = ToolProvider.getSystemJavaCompiler();
        try (StandardJavaFileManager files = compiler.getStandardFileManager(null, null, null)) {
            JavacTask task = (JavacTask) compiler.getTask(null, files, null, null, null,
                files.getJavaFileObjects(file));
            unit = task.parse().iterator().next();
            trees = Trees.instance(task);
        } catch (IOException wrong) {
            throw new UncheckedIOException(wrong);
        }
        imports = unit.getImports().size();
        scan(unit, null);
    }

    int linesOf(Tree tree) {
        long first = trees.getSourcePositions().getStartPosition(unit, tree);
        long last = trees.getSourcePositions().getEndPosition(unit, tree);
        return (int) (unit.getLineMap().getLineNumber(last) - unit.getLineMap().getLineNumber(first) + 1);
    }

    private static boolean isConstructor(MethodTree method) {
        return method.getName().contentEquals(CONSTRUCTOR);
    }

    static boolean isPublic(MethodTree method) {
        return method.getModifiers().getFlags().contains(Modifier.PUBLIC);
    }

    static boolean isStatic(VariableTree field) {
        return field.getModifiers().getFlags().contains(Modifier.STATIC);
    }

    @Override
    public Void scan(Tree tree, Void nothing) {
        if (tree != null) {
            kinds.add(tree.getKind());
        }
        return super.scan(tree, nothing);
    }

    @Override
    public Void visitClass(ClassTree type, Void nothing) {
        classes.add(type);
        for (Tree member : type.getMembers()) {
            if (member instanceof VariableTree field) {
                fields.add(field);
            }
            classBlocks += member instanceof BlockTree ? 1 : 0;
        }
        return super.visitClass(type, nothing);
    }

    @Override
    public Void visitMethod(MethodTree method, Void nothing) {
        inside = method;
        if (!isConstructor(method)) {
            methods.add(method);
            calls.putIfAbsent(method.getName().toString(), new TreeSet<>());
        }
        super.visitMethod(method, nothing);
        inside = null;
        return null;
    }

    @Override
    public Void visitVariable(VariableTree variable, Void nothing) {
        variables.add(variable);
        return super.visitVariable(variable, nothing);
    }

    @Override
    public Void visitMethodInvocation(MethodInvocationTree call, Void nothing) {
        String name = nameOf(call.getMethodSelect());
        if (inside == null || isConstructor(inside)) {
            calledInConstructors.add(call.toString());
        } else {
            calls.get(inside.getName().toString()).add(name);
        }
        return super.visitMethodInvocation(call, nothing);
    }

    private static String nameOf(Tree called) {
        return called instanceof MemberSelectTree select
            ? select.getIdentifier().toString()
            : called.toString();
    }

    @Override
    public Void visitMemberSelect(MemberSelectTree select, Void nothing) {
        boolean ofAType = select.getExpression() instanceof IdentifierTree owner
            && Character.isUpperCase(owner.getName().charAt(0));
        if (ofAType) {
            staticUses.add(select.toString());
        }
        return super.visitMemberSelect(select, nothing);
    }

    @Override
    public Void visitNewClass(NewClassTree made, Void nothing) {
        this.made.add(made);
        noteMade(made);
        return super.visitNewClass(made, nothing);
    }

    @Override
    public Void visitNewArray(NewArrayTree made, Void nothing) {
        noteMade(made);
        return super.visitNewArray(made, nothing);
    }

    private void noteMade(Tree made) {
        if (inside != null && !isConstructor(inside)) {
            madeInMethods.add(made + " in " + inside.getName());
        }
    }

    @Override
    public Void visitForLoop(ForLoopTree loop, Void nothing) {
        loops.add(loop);
        return super.visitForLoop(loop, nothing);
    }

    @Override
    public Void visitEnhancedForLoop(EnhancedForLoopTree loop, Void nothing) {
        loopsOver.add(loop);
        return super.visitEnhancedForLoop(loop, nothing);
    }
}
