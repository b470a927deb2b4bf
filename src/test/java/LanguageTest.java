import com.sun.source.tree.AssertTree;
import com.sun.source.tree.BlockTree;
import com.sun.source.tree.ClassTree;
import com.sun.source.tree.CompilationUnitTree;
import com.sun.source.tree.ImportTree;
import com.sun.source.tree.LambdaExpressionTree;
import com.sun.source.tree.MemberReferenceTree;
import com.sun.source.tree.MethodInvocationTree;
import com.sun.source.tree.MethodTree;
import com.sun.source.tree.NewClassTree;
import com.sun.source.tree.PackageTree;
import com.sun.source.tree.SynchronizedTree;
import com.sun.source.tree.ThrowTree;
import com.sun.source.tree.Tree;
import com.sun.source.tree.TryTree;
import com.sun.source.tree.TypeCastTree;
import com.sun.source.util.JavacTask;
import com.sun.source.util.TreePathScanner;
import com.sun.source.util.Trees;
import java.io.File;
import java.io.IOException;
import java.util.HashMap;
import java.util.HashSet;
import java.util.List;
import java.util.Map;
import java.util.Set;
import java.util.TreeSet;
import javax.lang.model.element.Element;
import javax.lang.model.element.ElementKind;
import javax.lang.model.element.ExecutableElement;
import javax.lang.model.element.Modifier;
import javax.lang.model.element.TypeElement;
import javax.lang.model.element.VariableElement;
import javax.lang.model.type.TypeMirror;
import javax.tools.JavaCompiler;
import javax.tools.StandardJavaFileManager;
import javax.tools.ToolProvider;

/**
 * The rules of LANGUAGE.md that can be seen in the source by its form, each with its number. The class needs less than
 * they allow, no library and no exception at all, and is held to that.
 */
public final class LanguageTest extends TreePathScanner<Void, ExecutableElement> {
    private static final File SOURCE = new File("src/main/java/JumpOrder.java");
    private static final Set<String> CONSTANT_TYPES = Set.of("int", "long", "boolean", "char", "java.lang.String");
    private static final Set<String> FIELD_TYPES = Set.of("int", "long", "boolean", "int[]");
    private static final int MOST_CLASSES = 12;
    private static final int MOST_FIELDS = 20;
    private static final int MOST_PARAMETERS = 7;
    private static final int MOST_LINES = 60;
    private static final int MOST_DEEP = 8;

    private final Checks checks;
    private final Trees trees;
    private final CompilationUnitTree file;
    private final Map<ExecutableElement, Set<ExecutableElement>> calls = new HashMap<>();
    private final Set<String> publicMethods = new TreeSet<>();
    private final Set<String> privateMethods = new TreeSet<>();
    private int classes = 0;

    private LanguageTest(Checks checks, Trees trees, CompilationUnitTree file) {
        this.checks = checks;
        this.trees = trees;
        this.file = file;
    }

    public static void main(String[] args) throws IOException {
        Checks checks = new Checks();
        JavaCompiler compiler = ToolProvider.getSystemJavaCompiler();
        try (StandardJavaFileManager files = compiler.getStandardFileManager(null, null, null)) {
            JavacTask task = (JavacTask) compiler.getTask(
                    null, files, null, List.of("-proc:none"), null, files.getJavaFileObjects(SOURCE));
            CompilationUnitTree file = task.parse().iterator().next();
            task.analyze();
            LanguageTest test = new LanguageTest(checks, Trees.instance(task), file);
            test.scan(file, null);
            test.endOfFile();
        }
        checks.end();
    }

    private void endOfFile() {
        checks.due("1: classes that stand in no other", file.getTypeDecls().size(), 1);
        most("11: classes in the file", classes, MOST_CLASSES);
        privateMethods.retainAll(publicMethods);
        checks.due("1: private methods that bear the name of a public one", privateMethods, Set.of());
        for (ExecutableElement method : calls.keySet()) {
            most("11: how deep calls go from " + method, depth(method, new HashSet<>()), MOST_DEEP);
        }
    }

    // ---- Classes, fields and methods

    @Override
    public Void visitClass(ClassTree tree, ExecutableElement within) {
        TypeElement type = (TypeElement) element();
        classes++;
        if (type.getEnclosingElement() instanceof TypeElement) {
            checks.due("1: " + type + " is static", type.getModifiers().contains(Modifier.STATIC), true);
            checks.due("1: " + type + " is public or protected", isOpen(type), false);
        } else if (type.getEnclosingElement().getKind() != ElementKind.PACKAGE) {
            refuse("2: a local class", tree);
        }
        int fields = 0;
        for (Element member : type.getEnclosedElements()) {
            if (member.getKind() == ElementKind.FIELD) {
                fields += fieldOf(type, (VariableElement) member);
            }
        }
        most("11: fields of " + type, fields, MOST_FIELDS);
        return super.visitClass(tree, within);
    }

    /** Answers how many fields it is in each object, 0 or 1. */
    private int fieldOf(TypeElement type, VariableElement field) {
        String name = type + "." + field;
        if (field.getModifiers().contains(Modifier.STATIC)) {
            checks.due("5: " + name + " is final", field.getModifiers().contains(Modifier.FINAL), true);
            checks.due("5: " + name + " is a constant", CONSTANT_TYPES.contains(field.asType().toString()), true);
            return 0;
        }
        checks.due("3: the type of " + name + " is allowed", isFieldType(field.asType()), true);
        return 1;
    }

    private static boolean isFieldType(TypeMirror type) {
        String name = type.toString();
        String own = name.endsWith("[]") ? name.substring(0, name.length() - 2) : name;
        return FIELD_TYPES.contains(name) || own.startsWith("JumpOrder.") && !own.endsWith("[]");
    }

    @Override
    public Void visitMethod(MethodTree tree, ExecutableElement within) {
        ExecutableElement method = (ExecutableElement) element();
        calls.put(method, calls.getOrDefault(method, new HashSet<>()));
        if (method.getKind() == ElementKind.METHOD) {
            (isOpen(method) ? publicMethods : privateMethods).add(method.getSimpleName().toString());
        }
        most("11: parameters of " + method, method.getParameters().size(), MOST_PARAMETERS);
        most("11: lines of " + method, linesOf(tree), MOST_LINES);
        if (method.getModifiers().contains(Modifier.SYNCHRONIZED) || method.getModifiers().contains(Modifier.NATIVE)) {
            refuse("6: a method that is synchronized or native", tree);
        }
        return super.visitMethod(tree, method);
    }

    // ---- Calls

    @Override
    public Void visitMethodInvocation(MethodInvocationTree tree, ExecutableElement within) {
        call((ExecutableElement) element(), tree, within);
        return super.visitMethodInvocation(tree, within);
    }

    @Override
    public Void visitNewClass(NewClassTree tree, ExecutableElement within) {
        call((ExecutableElement) element(), tree, within);
        return super.visitNewClass(tree, within);
    }

    private void call(ExecutableElement called, Tree tree, ExecutableElement caller) {
        boolean isOwn = called.getEnclosingElement().toString().startsWith("JumpOrder");
        boolean isSuper = called.getEnclosingElement().toString().equals("java.lang.Object")
                && called.getKind() == ElementKind.CONSTRUCTOR;
        if (isOwn && caller != null) {
            calls.computeIfAbsent(caller, c -> new HashSet<>()).add(called);
        } else if (!isSuper) {
            refuse("4: a call of the library, or one outside a method", tree);
        }
    }

    /** The most methods that stand open at once, this one counted; one that comes back to itself counts as too deep. */
    private int depth(ExecutableElement method, Set<ExecutableElement> open) {
        if (!open.add(method)) {
            return MOST_DEEP + 1;
        }
        int deepest = 0;
        for (ExecutableElement called : calls.getOrDefault(method, Set.of())) {
            deepest = Math.max(deepest, depth(called, open));
        }
        open.remove(method);
        return deepest + 1;
    }

    // ---- What the class does without

    @Override
    public Void visitPackage(PackageTree tree, ExecutableElement within) {
        return refuse("a package line", tree);
    }

    @Override
    public Void visitImport(ImportTree tree, ExecutableElement within) {
        return refuse("4: an import", tree);
    }

    @Override
    public Void visitBlock(BlockTree tree, ExecutableElement within) {
        return tree.isStatic() ? refuse("5: a static initialiser block", tree) : super.visitBlock(tree, within);
    }

    @Override
    public Void visitLambdaExpression(LambdaExpressionTree tree, ExecutableElement within) {
        return refuse("2: a lambda", tree);
    }

    @Override
    public Void visitMemberReference(MemberReferenceTree tree, ExecutableElement within) {
        return refuse("2: a method reference", tree);
    }

    @Override
    public Void visitTry(TryTree tree, ExecutableElement within) {
        return refuse("6: a try", tree);
    }

    @Override
    public Void visitThrow(ThrowTree tree, ExecutableElement within) {
        return refuse("6: a throw, where the document names no exception", tree);
    }

    @Override
    public Void visitSynchronized(SynchronizedTree tree, ExecutableElement within) {
        return refuse("6: a synchronized", tree);
    }

    @Override
    public Void visitAssert(AssertTree tree, ExecutableElement within) {
        return refuse("6: an assert", tree);
    }

    @Override
    public Void visitTypeCast(TypeCastTree tree, ExecutableElement within) {
        return refuse("7: a cast", tree);
    }

    // ---- What these have in common

    private Element element() {
        return trees.getElement(getCurrentPath());
    }

    private static boolean isOpen(Element element) {
        return element.getModifiers().contains(Modifier.PUBLIC) || element.getModifiers().contains(Modifier.PROTECTED);
    }

    private long linesOf(Tree tree) {
        long first = trees.getSourcePositions().getStartPosition(file, tree);
        long last = trees.getSourcePositions().getEndPosition(file, tree);
        return last < 0 ? 0 : file.getLineMap().getLineNumber(last) - file.getLineMap().getLineNumber(first) + 1;
    }

    private void most(String what, long got, long most) {
        if (got > most) {
            checks.due(what + ", at most", got, most);
        }
    }

    private Void refuse(String what, Tree tree) {
        long start = trees.getSourcePositions().getStartPosition(file, tree);
        checks.due("rule " + what, "in line " + file.getLineMap().getLineNumber(start), "nowhere");
        return null;
    }
}
