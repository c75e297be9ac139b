import com.sun.source.tree.ArrayAccessTree;
import com.sun.source.tree.AssignmentTree;
import com.sun.source.tree.BinaryTree;
import com.sun.source.tree.BlockTree;
import com.sun.source.tree.ClassTree;
import com.sun.source.tree.CompilationUnitTree;
import com.sun.source.tree.CompoundAssignmentTree;
import com.sun.source.tree.MethodInvocationTree;
import com.sun.source.tree.MethodTree;
import com.sun.source.tree.NewArrayTree;
import com.sun.source.tree.NewClassTree;
import com.sun.source.tree.Tree;
import com.sun.source.tree.TypeCastTree;
import com.sun.source.tree.UnaryTree;
import com.sun.source.tree.VariableTree;
import com.sun.source.util.JavacTask;
import com.sun.source.util.TreePath;
import com.sun.source.util.TreePathScanner;
import com.sun.source.util.Trees;
import java.io.File;
import java.util.Collection;
import java.util.HashMap;
import java.util.HashSet;
import java.util.List;
import java.util.Map;
import java.util.Set;
import java.util.TreeMap;
import java.util.TreeSet;
import javax.lang.model.element.Element;
import javax.lang.model.element.ElementKind;
import javax.lang.model.element.ExecutableElement;
import javax.lang.model.element.Modifier;
import javax.lang.model.element.VariableElement;
import javax.lang.model.type.ArrayType;
import javax.lang.model.type.TypeKind;
import javax.lang.model.type.TypeMirror;
import javax.tools.JavaCompiler;
import javax.tools.StandardJavaFileManager;
import javax.tools.ToolProvider;

/**
 * The rules of LANGUAGE.md that the compiler's own tree of the class can show: what is called and
 * made, of which types things are, what calls itself, how deep calls go. What is printed begins
 * with the rule's number.
 */
public final class RulesTest extends TreePathScanner<Void, Void> {
    private static final Set<String> LIBRARY = Set.of("String.length", "String.charAt",
        "String.isEmpty", "String.equals", "String.indexOf", "String.substring",
        "String.toCharArray", "StringBuilder.append", "StringBuilder.charAt",
        "StringBuilder.setCharAt", "StringBuilder.setLength", "StringBuilder.deleteCharAt",
        "StringBuilder.reverse", "StringBuilder.length", "StringBuilder.toString",
        "System.arraycopy", "Arrays.copyOf", "Arrays.copyOfRange", "Arrays.fill", "Math.max",
        "Math.min", "Math.abs", "Math.floorDiv", "Math.floorMod", "Object.clone", "Object.<init>");
    private static final Set<String> MADE = Set.of("String", "StringBuilder", "ArrayList");
    private static final Set<Tree.Kind> NEVER = Set.of(Tree.Kind.LAMBDA_EXPRESSION,
        Tree.Kind.MEMBER_REFERENCE, Tree.Kind.THROW, Tree.Kind.TRY, Tree.Kind.CATCH,
        Tree.Kind.SYNCHRONIZED, Tree.Kind.ASSERT, Tree.Kind.SWITCH_EXPRESSION,
        Tree.Kind.DOUBLE_LITERAL, Tree.Kind.FLOAT_LITERAL);
    private static final Set<Tree.Kind> COUNTING = Set.of(Tree.Kind.PREFIX_INCREMENT,
        Tree.Kind.PREFIX_DECREMENT, Tree.Kind.POSTFIX_INCREMENT, Tree.Kind.POSTFIX_DECREMENT);
    /** What may call itself, and the number that says how deep it is. */
    private static final Map<String, String> RECURSIVE = Map.of("lineUp", "place",
        "readTest", "depth", "readBoth", "depth", "readPlain", "depth", "readBracketed", "depth",
        "readSum", "depth", "readTerm", "depth", "readPart", "depth");
    private static final int DEEPEST = 8;

    private final Due due = new Due();
    private final Trees trees;
    private final Map<String, Set<String>> calls = new TreeMap<>();
    private final Map<String, MethodTree> methods = new HashMap<>();
    private String caller = "";
    private int classes = 0;

    private RulesTest(Trees trees) {
        this.trees = trees;
    }

    public static void main(String[] args) throws Exception {
        JavaCompiler javac = ToolProvider.getSystemJavaCompiler();
        try (StandardJavaFileManager files = javac.getStandardFileManager(null, null, null)) {
            JavacTask task = (JavacTask) javac.getTask(null, files, null, List.of("-proc:none"),
                    null, files.getJavaFileObjects(new File(args[0])));
            CompilationUnitTree unit = task.parse().iterator().next();
            task.analyze();
            RulesTest test = new RulesTest(Trees.instance(task));
            test.scan(unit, null);
            test.recursions();
            test.depths();
            test.isSo("11 classes: " + test.classes, test.classes <= 12);
            test.due.close("RulesTest");
        }
    }

    private void isSo(String what, boolean so) {
        due.is(what, so ? 1 : 0, 1);
    }

    private Element elementHere() {
        return trees.getElement(getCurrentPath());
    }

    private TypeMirror typeOf(Tree tree) {
        return trees.getTypeMirror(new TreePath(getCurrentPath(), tree));
    }

    private static boolean isOwn(Element element) {
        return element != null && element.toString().startsWith("SlackRace");
    }

    private static String nameOf(Element method) {
        return method.getEnclosingElement().getSimpleName() + "." + method.getSimpleName();
    }

    @Override
    public Void scan(Tree tree, Void none) {
        if (tree != null) {
            isSo("2, 3, 6 no " + tree.getKind(), !NEVER.contains(tree.getKind()));
        }
        return super.scan(tree, none);
    }

    @Override
    public Void visitClass(ClassTree tree, Void none) {
        classes++;
        Element element = elementHere();
        boolean outer = element.getEnclosingElement().getKind() == ElementKind.PACKAGE;
        boolean nested = element.getEnclosingElement().toString().equals("SlackRace")
                && element.getModifiers().contains(Modifier.STATIC)
                && element.getModifiers().contains(Modifier.PRIVATE);
        isSo("2 " + element + " is the class or one inside it", outer || nested);
        int fields = 0;
        for (Tree member : tree.getMembers()) {
            isSo("5 " + element + " has no block of its own", !(member instanceof BlockTree));
            if (member instanceof VariableTree field) {
                fields += field.getModifiers().getFlags().contains(Modifier.STATIC) ? 0 : 1;
            }
        }
        isSo("11 " + element + " has " + fields + " fields", fields <= 20);
        return super.visitClass(tree, none);
    }

    @Override
    public Void visitMethod(MethodTree tree, Void none) {
        Element method = elementHere();
        caller = nameOf(method);
        isSo("1 " + caller + " is there once", !methods.containsKey(caller));
        calls.put(caller, new TreeSet<>());
        methods.put(caller, tree);
        isSo("11 " + caller + " takes seven at most", tree.getParameters().size() <= 7);
        isSo("11 " + caller + " is short", linesOf(tree) <= 60);
        super.visitMethod(tree, none);
        caller = "";
        return null;
    }

    private long linesOf(MethodTree tree) {
        CompilationUnitTree unit = getCurrentPath().getCompilationUnit();
        long from = trees.getSourcePositions().getStartPosition(unit, tree);
        long to = trees.getSourcePositions().getEndPosition(unit, tree);
        // a constructor that nobody wrote has no end
        return to < 0 ? 0 : unit.getLineMap().getLineNumber(to)
                - unit.getLineMap().getLineNumber(from) + 1;
    }

    @Override
    public Void visitVariable(VariableTree tree, Void none) {
        Element variable = elementHere();
        TypeMirror type = variable.asType();
        isSo("3 " + variable + " is of " + type, isAllowed(type));
        if (variable.getModifiers().contains(Modifier.STATIC)) {
            isSo("5 " + variable + " is final", variable.getModifiers().contains(Modifier.FINAL));
            boolean row = type.getKind() == TypeKind.ARRAY;
            isSo("5 " + variable + " is written out",
                    row ? tree.getInitializer() instanceof NewArrayTree made
                            && made.getInitializers() != null
                            : tree.getInitializer() != null
                            && ((VariableElement) variable).getConstantValue() != null);
        }
        return super.visitVariable(tree, none);
    }

    private boolean isAllowed(TypeMirror type) {
        switch (type.getKind()) {
            case INT:
            case LONG:
            case BOOLEAN:
            case CHAR:
            case BYTE:
            case SHORT:
                return true;
            case ARRAY:
                TypeMirror of = ((ArrayType) type).getComponentType();
                return of.getKind() != TypeKind.ARRAY && isAllowed(of)
                        && !of.toString().equals("java.lang.String");
            default:
                return type.toString().equals("java.lang.String")
                        || type.toString().startsWith("SlackRace");
        }
    }

    @Override
    public Void visitMethodInvocation(MethodInvocationTree tree, Void none) {
        Element called = elementHere();
        if (isOwn(called.getEnclosingElement())) {
            note(nameOf(called));
        } else {
            isSo("4 " + nameOf(called), LIBRARY.contains(nameOf(called)) || isClone(called));
        }
        return super.visitMethodInvocation(tree, none);
    }

    private static boolean isClone(Element called) {
        return called.getSimpleName().contentEquals("clone")
                && called instanceof ExecutableElement method && method.getParameters().isEmpty();
    }

    @Override
    public Void visitNewClass(NewClassTree tree, Void none) {
        Element made = elementHere();
        isSo("2 nothing anonymous", tree.getClassBody() == null);
        if (isOwn(made.getEnclosingElement())) {
            note(nameOf(made));
        } else {
            String of = made.getEnclosingElement().getSimpleName().toString();
            isSo("4 new " + of, MADE.contains(of));
        }
        return super.visitNewClass(tree, none);
    }

    private void note(String called) {
        if (!caller.isEmpty()) {
            calls.get(caller).add(called);
        }
    }

    @Override
    public Void visitTypeCast(TypeCastTree tree, Void none) {
        isSo("6 casts are of numbers: " + tree, typeOf(tree.getType()).getKind().isPrimitive());
        return super.visitTypeCast(tree, none);
    }

    @Override
    public Void visitBinary(BinaryTree tree, Void none) {
        boolean texts = isText(tree.getLeftOperand()) || isText(tree.getRightOperand());
        isSo("6, 10 no text is joined or compared by a sign: " + tree, !texts);
        return super.visitBinary(tree, none);
    }

    private boolean isText(Tree tree) {
        TypeMirror type = typeOf(tree);
        return type != null && (type.toString().equals("java.lang.String")
                || type.toString().equals("java.lang.Integer"));
    }

    @Override
    public Void visitAssignment(AssignmentTree tree, Void none) {
        changes(tree.getVariable());
        return super.visitAssignment(tree, none);
    }

    @Override
    public Void visitCompoundAssignment(CompoundAssignmentTree tree, Void none) {
        changes(tree.getVariable());
        return super.visitCompoundAssignment(tree, none);
    }

    @Override
    public Void visitUnary(UnaryTree tree, Void none) {
        if (COUNTING.contains(tree.getKind())) {
            changes(tree.getExpression());
        }
        return super.visitUnary(tree, none);
    }

    private void changes(Tree variable) {
        if (variable instanceof ArrayAccessTree access) {
            TreePath path = new TreePath(new TreePath(getCurrentPath(), variable),
                    access.getExpression());
            Element row = trees.getElement(path);
            isSo("5 " + variable + " is no constant's",
                    row == null || !row.getModifiers().contains(Modifier.STATIC));
        }
    }

    private void recursions() {
        for (String method : calls.keySet()) {
            if (reached(method).contains(method)) {
                String name = method.substring(method.indexOf('.') + 1);
                boolean guarded = false;
                for (VariableTree parameter : methods.get(method).getParameters()) {
                    guarded |= parameter.getName().contentEquals(RECURSIVE.getOrDefault(name, ""));
                }
                isSo("8 " + method + " carries its depth", guarded);
            }
        }
    }

    private Set<String> reached(String method) {
        Set<String> all = new HashSet<>();
        Collection<String> next = calls.getOrDefault(method, Set.of());
        while (!next.isEmpty()) {
            Set<String> behind = new HashSet<>();
            for (String called : next) {
                if (all.add(called)) {
                    behind.addAll(calls.getOrDefault(called, Set.of()));
                }
            }
            next = behind;
        }
        return all;
    }

    /** Calls among those that call one another are recursion, and are not counted. */
    private void depths() {
        Map<String, Integer> known = new HashMap<>();
        for (String method : calls.keySet()) {
            int deep = depth(method, known);
            isSo("11 " + method + " goes " + deep + " deep", deep <= DEEPEST);
        }
        isSo("11 depths are seen", known.getOrDefault("SlackRace.most", 0) > 4);
    }

    private int depth(String method, Map<String, Integer> known) {
        if (known.containsKey(method)) {
            return known.get(method);
        }
        int deepest = 0;
        for (String called : outOf(method)) {
            deepest = Math.max(deepest, depth(called, known));
        }
        known.put(method, deepest + 1);
        return deepest + 1;
    }

    private Set<String> outOf(String method) {
        Set<String> out = new TreeSet<>();
        Set<String> among = new TreeSet<>(List.of(method));
        for (String called : reached(method)) {
            if (reached(called).contains(method)) {
                among.add(called);
            }
        }
        for (String one : among) {
            out.addAll(calls.getOrDefault(one, Set.of()));
        }
        out.removeAll(among);
        return out;
    }
}
