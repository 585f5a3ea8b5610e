import com.sun.source.tree.*;
import com.sun.source.util.JavacTask;
import com.sun.source.util.TreeScanner;
import java.nio.file.Path;
import java.util.ArrayList;
import java.util.HashMap;
import java.util.HashSet;
import java.util.List;
import java.util.Map;
import java.util.Set;
import javax.lang.model.element.Modifier;
import javax.tools.JavaCompiler;
import javax.tools.StandardJavaFileManager;
import javax.tools.ToolProvider;

/** Rules of LANGUAGE.md that a reading of the source can hold; told the source's path. */
public final class LanguageTest extends TreeScanner<Void, Void> {
    private static final Set<Tree.Kind> FORBIDDEN = Set.of(Tree.Kind.THROW, Tree.Kind.TRY,
            Tree.Kind.CATCH, Tree.Kind.SYNCHRONIZED, Tree.Kind.ASSERT,
            Tree.Kind.LAMBDA_EXPRESSION, Tree.Kind.MEMBER_REFERENCE, Tree.Kind.FLOAT_LITERAL,
            Tree.Kind.DOUBLE_LITERAL);
    private static final Set<String> IMPORTS = Set.of("java.util.Arrays", "java.util.ArrayList",
            "java.util.List", "java.util.Iterator");
    private static final Map<String, Set<String>> LIBRARY = Map.of(
            "System", Set.of("arraycopy"),
            "Arrays", Set.of("copyOf", "copyOfRange", "fill"),
            "Math", Set.of("max", "min", "abs", "floorDiv", "floorMod"),
            "Integer", Set.of("bitCount", "compare", "max", "min"));

    private final Set<String> publicNames = new HashSet<>();
    private final Map<String, Set<String>> calls = new HashMap<>();
    private final Map<String, Integer> depths = new HashMap<>();
    private CompilationUnitTree unit;
    private String inClass = "";
    private String inMethod = "";
    private boolean isStatic = false;
    private int classes = 0;
    private int wrong = 0;

    public static void main(String[] args) throws Exception {
        LanguageTest test = new LanguageTest();
        JavaCompiler compiler = ToolProvider.getSystemJavaCompiler();
        try (StandardJavaFileManager files = compiler.getStandardFileManager(null, null, null)) {
            JavacTask task = (JavacTask) compiler.getTask(null, files, null, null, null,
                    files.getJavaFileObjects(Path.of(args[0])));
            for (CompilationUnitTree unit : task.parse()) {
                test.unit = unit;
                test.namesOfFace((ClassTree) unit.getTypeDecls().get(0));
                test.scan(unit, null);
            }
        }
        test.depthOfCalls();
        if (test.wrong != 0) {
            System.exit(1);
        }
    }

    private void no(String what) {
        wrong++;
        System.out.println("LANGUAGE.md: " + what + " in " + inClass + "." + inMethod);
    }

    private void namesOfFace(ClassTree face) {
        for (Tree member : face.getMembers()) {
            if (member instanceof MethodTree m
                    && m.getModifiers().getFlags().contains(Modifier.PUBLIC)) {
                publicNames.add(m.getName().toString());
            }
        }
    }

    @Override
    public Void scan(Tree tree, Void none) {
        if (tree != null && FORBIDDEN.contains(tree.getKind())) {
            no(tree.getKind().toString());
        }
        return super.scan(tree, none);
    }

    @Override
    public Void visitImport(ImportTree tree, Void none) {
        if (!IMPORTS.contains(tree.getQualifiedIdentifier().toString())) {
            no(tree.toString());
        }
        return null;
    }

    @Override
    public Void visitClass(ClassTree tree, Void none) {
        String outer = inClass;
        inClass = tree.getSimpleName().toString();
        classes++;
        Set<Modifier> flags = tree.getModifiers().getFlags();
        if (!outer.isEmpty() && !flags.contains(Modifier.STATIC)) {
            no("a class that isn't static");
        }
        if (!inMethod.isEmpty() || classes > 12) {
            no("a class too many, or within a method");
        }
        int fields = 0;
        for (Tree member : tree.getMembers()) {
            if (member instanceof VariableTree v) {
                fields += fieldOf(v, outer.isEmpty());
            }
        }
        if (fields > 20) {
            no(fields + " fields");
        }
        super.visitClass(tree, none);
        inClass = outer;
        return null;
    }

    private int fieldOf(VariableTree field, boolean isFace) {
        Set<Modifier> flags = field.getModifiers().getFlags();
        boolean isConstant = flags.contains(Modifier.STATIC);
        if (isConstant && !flags.contains(Modifier.FINAL)) {
            no("static state " + field.getName());
        }
        if (isFace && !flags.contains(Modifier.PRIVATE) && !field.getName().contentEquals("NONE")) {
            no("a field of the face " + field.getName());
        }
        return isConstant ? 0 : 1;
    }

    @Override
    public Void visitMethod(MethodTree tree, Void none) {
        inMethod = tree.getName().toString();
        Set<Modifier> flags = tree.getModifiers().getFlags();
        boolean isFace = inClass.equals("TheOneWithout");
        if (flags.contains(Modifier.PRIVATE) && publicNames.contains(inMethod)
                || !isFace && publicNames.contains(inMethod) && !inMethod.equals("<init>")) {
            no("the name of a public method");
        }
        if (isFace && !flags.contains(Modifier.PUBLIC) && !flags.contains(Modifier.PRIVATE)) {
            no("a member of the face");
        }
        if (tree.getParameters().size() > 7) {
            no("too many parameters");
        }
        if (tree.toString().split("\n").length > 60) {
            no("a long method");
        }
        isStatic = flags.contains(Modifier.STATIC);
        calls.put(inClass + "." + inMethod, new HashSet<>());
        super.visitMethod(tree, none);
        inMethod = "";
        return null;
    }

    @Override
    public Void visitBinary(BinaryTree tree, Void none) {
        if (tree.getKind() == Tree.Kind.PLUS
                && (isText(tree.getLeftOperand()) || isText(tree.getRightOperand()))) {
            no("texts joined by +");
        }
        return super.visitBinary(tree, none);
    }

    private static boolean isText(Tree tree) {
        return tree.getKind() == Tree.Kind.STRING_LITERAL;
    }

    @Override
    public Void visitMethodInvocation(MethodInvocationTree tree, Void none) {
        ExpressionTree called = tree.getMethodSelect();
        if (called instanceof MemberSelectTree m) {
            String on = m.getExpression().toString();
            String name = m.getIdentifier().toString();
            Set<String> known = LIBRARY.get(on);
            if (known != null && !known.contains(name)) {
                no(on + "." + name);
            }
            String owner = Character.isLowerCase(on.charAt(0))
                    ? Character.toUpperCase(on.charAt(0)) + on.substring(1) : on;
            owner = owner.equals("Kept") || owner.equals("Ahead") ? "Tray" : owner;
            noteCall(owner + "." + name);
        } else {
            if (!isStatic && called.toString().equals(inMethod)) {
                no("a method that calls itself and isn't static");
            }
            noteCall(inClass + "." + called);
        }
        return super.visitMethodInvocation(tree, none);
    }

    private void noteCall(String called) {
        if (!inMethod.isEmpty()) {
            calls.get(inClass + "." + inMethod).add(called);
        }
    }

    private void depthOfCalls() {
        for (String name : publicNames) {
            int depth = depthOf("TheOneWithout." + name, new ArrayList<>());
            if (depth > 8) {
                no("calls " + depth + " deep from " + name);
            }
        }
    }

    /** How deep calls go, those of a recursion once. */
    private int depthOf(String method, List<String> open) {
        if (!calls.containsKey(method) || open.contains(method)) {
            return 0;
        }
        if (!open.isEmpty() && depths.containsKey(method)) {
            return depths.get(method);
        }
        open.add(method);
        int deepest = 0;
        for (String called : calls.get(method)) {
            deepest = Math.max(deepest, depthOf(called, open));
        }
        open.remove(method);
        depths.put(method, deepest + 1);
        return deepest + 1;
    }
}
