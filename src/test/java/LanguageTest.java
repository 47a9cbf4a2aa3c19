import com.sun.source.tree.*;
import com.sun.source.util.*;
import java.io.File;
import java.util.*;
import javax.lang.model.element.*;
import javax.lang.model.type.TypeKind;
import javax.tools.*;

/**
 * Holds the program's source against the rules of LANGUAGE.md that can be seen in its tree. The first argument, if there
 * is one, is the source's path.
 */
public final class LanguageTest extends TreePathScanner<Void, Void> {
    private static final Set<String> FACE = Set.of("person", "today", "as", "letter", "term", "waits", "stay", "quash",
            "month", "held", "tear", "copy", "off", "back", "grant", "recall", "kind", "begins", "ends", "counted",
            "taken", "why", "by", "full", "watched", "open", "over", "ring", "check", "image", "take", "count");
    private static final Set<String> LIBRARY = Set.of("java.lang.Math.max", "java.lang.Math.min",
            "java.lang.Integer.bitCount", "java.lang.Integer.numberOfTrailingZeros", "java.util.Arrays.fill");
    private static final Set<Tree.Kind> BANNED = EnumSet.of(Tree.Kind.THROW, Tree.Kind.TRY, Tree.Kind.CATCH,
            Tree.Kind.SYNCHRONIZED, Tree.Kind.ASSERT, Tree.Kind.LAMBDA_EXPRESSION, Tree.Kind.MEMBER_REFERENCE,
            Tree.Kind.STRING_LITERAL, Tree.Kind.TYPE_CAST, Tree.Kind.INSTANCE_OF, Tree.Kind.ANNOTATION,
            Tree.Kind.SWITCH_EXPRESSION, Tree.Kind.FLOAT_LITERAL, Tree.Kind.DOUBLE_LITERAL);

    private final Trees trees;
    private final CompilationUnitTree unit;
    private final Map<Element, Set<Element>> calls = new LinkedHashMap<>();
    private final Map<Element, Integer> depths = new HashMap<>();
    private Element method = null;
    private int classes = 0;

    private LanguageTest(Trees trees, CompilationUnitTree unit) {
        this.trees = trees;
        this.unit = unit;
    }

    public static void main(String[] args) throws Exception {
        File source = new File(args.length > 0 ? args[0] : "src/main/java/TermReckoner.java");
        JavaCompiler compiler = ToolProvider.getSystemJavaCompiler();
        StandardJavaFileManager files = compiler.getStandardFileManager(null, null, null);
        JavacTask task = (JavacTask) compiler.getTask(null, files, null, List.of("-proc:none"), null,
                files.getJavaFileObjects(source));
        CompilationUnitTree unit = task.parse().iterator().next();
        task.analyze();
        LanguageTest test = new LanguageTest(Trees.instance(task), unit);
        test.scan(unit, null);
        test.checkWhole();
        Due.close("LanguageTest");
    }

    private void rule(int number, boolean kept, String what, Tree tree) {
        if (kept) {
            Due.pass();
        } else {
            Due.fail("rule " + number + ", line " + lineOf(tree) + ": " + what);
        }
    }

    private long lineOf(Tree tree) {
        return unit.getLineMap().getLineNumber(trees.getSourcePositions().getStartPosition(unit, tree));
    }

    private long lastLineOf(Tree tree) {
        return unit.getLineMap().getLineNumber(trees.getSourcePositions().getEndPosition(unit, tree));
    }

    @Override
    public Void scan(Tree tree, Void v) {
        if (tree != null) {
            rule(6, !BANNED.contains(tree.getKind()), "a " + tree.getKind(), tree);
        }
        return super.scan(tree, v);
    }

    @Override
    public Void visitCompilationUnit(CompilationUnitTree tree, Void v) {
        rule(1, tree.getPackageName() == null, "a package line", tree);
        rule(1, tree.getTypeDecls().size() == 1, "one class", tree);
        for (ImportTree each : tree.getImports()) {
            String name = each.getQualifiedIdentifier().toString();
            rule(4, name.equals("java.util.Arrays") || name.equals("java.util.ArrayList")
                    || name.equals("java.util.List"), "import of " + name, each);
        }
        return super.visitCompilationUnit(tree, v);
    }

    @Override
    public Void visitClass(ClassTree tree, Void v) {
        classes++;
        Set<Modifier> has = tree.getModifiers().getFlags();
        boolean outer = tree.getSimpleName().contentEquals("TermReckoner");
        if (outer) {
            rule(1, has.equals(EnumSet.of(Modifier.PUBLIC, Modifier.FINAL)), "the class is public and final", tree);
        } else {
            rule(2, has.contains(Modifier.STATIC) && has.contains(Modifier.PRIVATE), "private and static", tree);
        }
        int fields = 0;
        for (Tree member : tree.getMembers()) {
            if (member instanceof VariableTree field) {
                Set<Modifier> flags = field.getModifiers().getFlags();
                boolean constant = flags.contains(Modifier.STATIC);
                fields += constant ? 0 : 1;
                rule(5, !constant || flags.contains(Modifier.FINAL), "a static field that is not final", member);
                boolean open = outer && field.getName().contentEquals("NONE");
                rule(1, !outer || open || flags.contains(Modifier.PRIVATE), "a field that is not private", member);
            }
            rule(5, !(member instanceof BlockTree), "an initialiser block", member);
        }
        rule(11, fields <= 20, fields + " fields", tree);
        return super.visitClass(tree, v);
    }

    @Override
    public Void visitMethod(MethodTree tree, Void v) {
        Element element = trees.getElement(getCurrentPath());
        boolean face = element.getModifiers().contains(Modifier.PUBLIC);
        boolean outer = element.getEnclosingElement().getSimpleName().contentEquals("TermReckoner");
        String name = tree.getName().toString();
        rule(1, face == (outer && (FACE.contains(name) || name.equals("<init>"))), "the face: " + name, tree);
        rule(1, face || !FACE.contains(name), "a private method named as a public one: " + name, tree);
        rule(1, face || !outer || element.getModifiers().contains(Modifier.PRIVATE), "not private: " + name, tree);
        rule(11, face || tree.getParameters().size() <= 7, "more than seven parameters: " + name, tree);
        rule(11, lastLineOf(tree) - lineOf(tree) < 60, "more than 60 lines: " + name, tree);
        calls.put(element, new LinkedHashSet<>());
        Element before = method;
        method = element;
        super.visitMethod(tree, v);
        method = before;
        return null;
    }

    @Override
    public Void visitMethodInvocation(MethodInvocationTree tree, Void v) {
        Element called = trees.getElement(new TreePath(getCurrentPath(), tree.getMethodSelect()));
        noteCall(called, tree);
        return super.visitMethodInvocation(tree, v);
    }

    @Override
    public Void visitNewClass(NewClassTree tree, Void v) {
        rule(2, tree.getClassBody() == null, "an anonymous class", tree);
        noteCall(trees.getElement(getCurrentPath()), tree);
        return super.visitNewClass(tree, v);
    }

    private void noteCall(Element called, Tree tree) {
        if (trees.getTree(called) != null || called.getSimpleName().contentEquals("<init>")) {
            if (method != null) {
                calls.get(method).add(called);
            }
            return;
        }
        String name = called.getEnclosingElement() + "." + called.getSimpleName();
        rule(4, LIBRARY.contains(name), "a call of " + name, tree);
    }

    @Override
    public Void visitVariable(VariableTree tree, Void v) {
        TypeKind kind = trees.getElement(getCurrentPath()).asType().getKind();
        boolean plain = kind == TypeKind.INT || kind == TypeKind.LONG || kind == TypeKind.BOOLEAN
                || kind == TypeKind.ARRAY || kind == TypeKind.DECLARED;
        rule(3, plain, "a type that this program does not need: " + tree.getType(), tree);
        return super.visitVariable(tree, v);
    }

    private void checkWhole() {
        rule(11, classes <= 12, classes + " classes", unit);
        Set<String> seen = new TreeSet<>();
        int deepest = 0;
        for (Element each : calls.keySet()) {
            int depth = depth(each, new ArrayDeque<>());
            if (each.getModifiers().contains(Modifier.PUBLIC)) {
                seen.add(each.getSimpleName().toString());
                rule(11, depth <= 8, each + " goes " + depth + " calls deep", unit);
                deepest = Math.max(deepest, depth);
            }
        }
        seen.remove("<init>");
        rule(1, seen.equals(FACE), "the whole face", unit);
        System.out.println("calls go at most " + deepest + " deep");
    }

    /** How many calls stand open at once, the method's own with it. */
    private int depth(Element each, Deque<Element> way) {
        if (way.contains(each)) {
            rule(8, false, "recursion of " + each, unit);
            return 0;
        }
        if (depths.containsKey(each)) {
            return depths.get(each);
        }
        way.push(each);
        int depth = 0;
        for (Element called : calls.getOrDefault(each, Set.of())) {
            depth = Math.max(depth, depth(called, way));
        }
        way.pop();
        depths.put(each, depth + 1);
        return depth + 1;
    }
}
