import com.sun.source.tree.*;
import com.sun.source.util.JavacTask;
import com.sun.source.util.TreePath;
import com.sun.source.util.TreePathScanner;
import com.sun.source.util.Trees;
import java.nio.file.Files;
import java.nio.file.Path;
import java.util.*;
import javax.lang.model.element.Element;
import javax.lang.model.element.ElementKind;
import javax.lang.model.element.Modifier;
import javax.tools.JavaCompiler;
import javax.tools.StandardJavaFileManager;
import javax.tools.ToolProvider;

/** What of ../shared/LANGUAGE.md, and of the document's face, can be read from the compiler's tree. */
final class LanguageTest extends TreePathScanner<Void, Void> {
    private static final Path SOURCE = Path.of("src/main/java/LetterWalls.java");
    private static final Path DOCUMENT = Path.of("../shared/DOC.md");
    private static final Set<String> LIBRARY = Set.of(
        "java.lang.String.indexOf", "java.lang.Integer.bitCount", "java.lang.Math.min", "java.lang.Math.max",
        "java.lang.System.arraycopy", "java.util.Arrays.fill", "java.lang.Object.<init>");
    private static final Set<Tree.Kind> BARRED = EnumSet.of(
        Tree.Kind.THROW, Tree.Kind.TRY, Tree.Kind.CATCH, Tree.Kind.ASSERT, Tree.Kind.SYNCHRONIZED,
        Tree.Kind.LAMBDA_EXPRESSION, Tree.Kind.MEMBER_REFERENCE);

    private final Due due = new Due();
    private final Trees trees;
    private final CompilationUnitTree unit;
    private final Map<String, Set<String>> calls = new TreeMap<>();
    private final Set<String> publicNames = new TreeSet<>();
    private final List<String> otherNames = new ArrayList<>();
    private final List<String> face = new ArrayList<>();
    private int classes;
    private String method = "";

    private LanguageTest(JavacTask task) throws Exception {
        unit = task.parse().iterator().next();
        task.analyze();
        trees = Trees.instance(task);
    }

    public static void main(String[] args) throws Exception {
        JavaCompiler compiler = ToolProvider.getSystemJavaCompiler();
        try (StandardJavaFileManager files = compiler.getStandardFileManager(null, null, null)) {
            JavacTask task = (JavacTask) compiler.getTask(null, files, null, List.of("-proc:none"), null,
                files.getJavaFileObjects(SOURCE));
            LanguageTest test = new LanguageTest(task);
            test.scan(new TreePath(test.unit), null);
            test.ends();
        }
    }

    private void no(String what, boolean fault) {
        due.is(what, 0, fault ? 1 : 0);
    }

    private void ends() throws Exception {
        no("12 classes at most, not " + classes, classes > 12);
        for (String name : otherNames) {
            no("a private method with a public one's name: " + name, publicNames.contains(name));
        }
        for (String one : calls.keySet()) {
            no("calls deeper than 8 from " + one, depth(one, new ArrayList<>()) > 8);
        }
        List<String> promised = new ArrayList<>();
        for (String line : Files.readAllLines(DOCUMENT)) {
            if (line.startsWith("    public ")) {
                promised.add(line.trim().replace("public ", "").replace(";", ""));
            }
        }
        no("the face is " + face + ", promised is " + promised, promised.isEmpty() || !face.equals(promised));
        due.end();
    }

    /** Recursion isn't counted: a method that already stands open ends the chain. */
    private int depth(String one, List<String> open) {
        int deepest = 0;
        open.add(one);
        for (String next : calls.getOrDefault(one, Set.of())) {
            if (!open.contains(next) && !reaches(next, one, new TreeSet<>())) {
                deepest = Math.max(deepest, depth(next, open));
            }
        }
        open.remove(open.size() - 1);
        return deepest + 1;
    }

    private boolean reaches(String from, String to, Set<String> seen) {
        if (from.equals(to)) {
            return true;
        }
        boolean found = false;
        for (String next : calls.getOrDefault(from, Set.of())) {
            found |= seen.add(next) && reaches(next, to, seen);
        }
        return found;
    }

    @Override
    public Void scan(Tree tree, Void p) {
        if (tree != null) {
            no("barred at line " + line(tree) + ": " + tree.getKind(), BARRED.contains(tree.getKind()));
        }
        return super.scan(tree, p);
    }

    private long line(Tree tree) {
        return unit.getLineMap().getLineNumber(trees.getSourcePositions().getStartPosition(unit, tree));
    }

    @Override
    public Void visitClass(ClassTree tree, Void p) {
        classes++;
        Set<Modifier> flags = tree.getModifiers().getFlags();
        boolean outer = tree.getSimpleName().contentEquals("LetterWalls");
        no("class " + tree.getSimpleName(), outer ? !flags.contains(Modifier.PUBLIC) : !flags.contains(Modifier.STATIC));
        int fields = 0;
        for (Tree member : tree.getMembers()) {
            if (member instanceof VariableTree) {
                Set<Modifier> of = ((VariableTree) member).getModifiers().getFlags();
                fields += of.contains(Modifier.STATIC) ? 0 : 1;
                no("a static field that isn't final at line " + line(member),
                    of.contains(Modifier.STATIC) && !of.contains(Modifier.FINAL));
                no("a field of the face that isn't private at line " + line(member),
                    outer && !of.contains(Modifier.PRIVATE));
            }
            no("a block at line " + line(member), member instanceof BlockTree);
        }
        no("20 fields at most in " + tree.getSimpleName(), fields > 20);
        return super.visitClass(tree, p);
    }

    @Override
    public Void visitMethod(MethodTree tree, Void p) {
        Element of = trees.getElement(getCurrentPath());
        method = of.getEnclosingElement().getSimpleName() + "." + tree.getName();
        calls.putIfAbsent(method, new TreeSet<>());
        long from = line(tree);
        long to = unit.getLineMap().getLineNumber(trees.getSourcePositions().getEndPosition(unit, tree));
        no("60 lines at most: " + method, to - from + 1 > 60);
        no("7 parameters at most: " + method, tree.getParameters().size() > 7);
        boolean outer = of.getEnclosingElement().getSimpleName().contentEquals("LetterWalls");
        boolean isPublic = tree.getModifiers().getFlags().contains(Modifier.PUBLIC);
        if (outer && isPublic) {
            publicNames.add(tree.getName().toString());
            face.add(signature(tree));
        } else if (!tree.getName().contentEquals("<init>")) {
            otherNames.add(tree.getName().toString());
            no("a method of the face that is neither public nor private: " + method,
                outer && !tree.getModifiers().getFlags().contains(Modifier.PRIVATE));
        }
        return super.visitMethod(tree, p);
    }

    private static String signature(MethodTree tree) {
        StringJoiner parameters = new StringJoiner(", ", "(", ")");
        for (VariableTree one : tree.getParameters()) {
            parameters.add(one.getType() + " " + one.getName());
        }
        boolean constructor = tree.getName().contentEquals("<init>");
        return (constructor ? "LetterWalls" : tree.getReturnType() + " " + tree.getName()) + parameters;
    }

    @Override
    public Void visitMethodInvocation(MethodInvocationTree tree, Void p) {
        Element called = trees.getElement(getCurrentPath());
        String owner = ((javax.lang.model.element.TypeElement) called.getEnclosingElement()).getQualifiedName().toString();
        if (owner.startsWith("LetterWalls")) {
            calls.get(method).add(called.getEnclosingElement().getSimpleName() + "." + called.getSimpleName());
        } else {
            String name = owner + "." + called.getSimpleName();
            no("not of the library at line " + line(tree) + ": " + name, !LIBRARY.contains(name));
        }
        return super.visitMethodInvocation(tree, p);
    }

    @Override
    public Void visitNewClass(NewClassTree tree, Void p) {
        no("an anonymous class at line " + line(tree), tree.getClassBody() != null);
        Element made = trees.getElement(getCurrentPath());
        no("made outside a constructor at line " + line(tree),
            made == null || made.getKind() != ElementKind.CONSTRUCTOR || !makesInConstructor());
        return super.visitNewClass(tree, p);
    }

    @Override
    public Void visitNewArray(NewArrayTree tree, Void p) {
        no("an array made outside a constructor at line " + line(tree), !makesInConstructor());
        return super.visitNewArray(tree, p);
    }

    private boolean makesInConstructor() {
        for (Tree tree : getCurrentPath()) {
            if (tree instanceof MethodTree) {
                return ((MethodTree) tree).getName().contentEquals("<init>");
            }
        }
        return true;
    }

    @Override
    public Void visitBinary(BinaryTree tree, Void p) {
        String type = String.valueOf(trees.getTypeMirror(getCurrentPath()));
        no("texts joined by + at line " + line(tree), type.equals("java.lang.String"));
        return super.visitBinary(tree, p);
    }
}
