import com.sun.source.tree.ArrayAccessTree;
import com.sun.source.tree.AssignmentTree;
import com.sun.source.tree.BinaryTree;
import com.sun.source.tree.ClassTree;
import com.sun.source.tree.CompoundAssignmentTree;
import com.sun.source.tree.ExpressionTree;
import com.sun.source.tree.ForLoopTree;
import com.sun.source.tree.IdentifierTree;
import com.sun.source.tree.ImportTree;
import com.sun.source.tree.LiteralTree;
import com.sun.source.tree.MemberSelectTree;
import com.sun.source.tree.MethodInvocationTree;
import com.sun.source.tree.MethodTree;
import com.sun.source.tree.NewArrayTree;
import com.sun.source.tree.NewClassTree;
import com.sun.source.tree.Tree;
import com.sun.source.tree.UnaryTree;
import com.sun.source.tree.VariableTree;
import com.sun.source.util.TreePath;
import com.sun.source.util.TreePathScanner;
import java.io.IOException;
import java.util.HashSet;
import java.util.LinkedHashSet;
import java.util.Map;
import java.util.Set;
import java.util.TreeMap;
import java.util.regex.Pattern;
import javax.lang.model.element.Element;
import javax.lang.model.element.ElementKind;
import javax.lang.model.element.ExecutableElement;
import javax.lang.model.element.Modifier;
import javax.lang.model.element.VariableElement;

/** The rules of LANGUAGE.md that can be told by reading the program; each check begins with its rule's number. */
public final class LanguageTest extends TreePathScanner<Void, Void> {
    private static final Checks CHECKS = new Checks("LanguageTest");

    /** What the program uses of rules 4 and 3, which allow more; one more is looked up there before it is put here. */
    private static final Set<String> LIBRARY = Set.of("Arrays.fill", "Integer.bitCount",
        "Integer.numberOfTrailingZeros", "Math.abs", "Math.max", "Math.min", "Object.<init>");

    private static final Pattern TYPE = Pattern.compile("(int|boolean|Text|Clue|Clues|Grids|Answers|Strikes)(\\[\\])?");
    private static final Set<String> IMPORTS = Set.of("java.util.Arrays");

    /** By the rules of these numbers. */
    private static final Map<Tree.Kind, Integer> BARRED = Map.of(
        Tree.Kind.LAMBDA_EXPRESSION, 2, Tree.Kind.MEMBER_REFERENCE, 2, Tree.Kind.THROW, 6, Tree.Kind.TRY, 6,
        Tree.Kind.CATCH, 6, Tree.Kind.SYNCHRONIZED, 6, Tree.Kind.ASSERT, 6, Tree.Kind.TYPE_CAST, 6,
        Tree.Kind.ANNOTATION, 4);

    private static final int DEEPEST = 8, LONGEST = 60, MOST_CLASSES = 12, MOST_FIELDS = 20, MOST_PARAMETERS = 7;

    private final Program program;
    private final Set<String> publicNames = new HashSet<>();
    private final Set<String> privateNames = new HashSet<>();
    private final Map<String, Set<String>> calls = new TreeMap<>();
    private int classes = 0;
    /** The method that is read; a field's first value counts with the constructor of its class. */
    private String reading = "";

    private LanguageTest(Program program) {
        this.program = program;
    }

    public static void main(String[] args) throws IOException {
        Program program = new Program();
        LanguageTest test = new LanguageTest(program);
        test.scan(program.unit, null);
        test.closeNames();
        test.closeCalls();
        holdsPlainSigns(program.text);
        CHECKS.close();
    }

    private void rule(int number, Tree tree, String what, boolean is) {
        CHECKS.holds("rule " + number + ", line " + program.firstLine(tree) + ": " + what, is);
    }

    @Override
    public Void scan(Tree tree, Void nothing) {
        if (tree != null) {
            Integer barredBy = BARRED.get(tree.getKind());
            rule(barredBy == null ? 6 : barredBy, tree, "no " + tree.getKind(), barredBy == null);
        }
        return super.scan(tree, nothing);
    }

    // ---- imports, classes, methods, fields

    @Override
    public Void visitImport(ImportTree tree, Void nothing) {
        String name = tree.getQualifiedIdentifier().toString();
        rule(4, tree, "the import " + name, IMPORTS.contains(name));
        return super.visitImport(tree, nothing);
    }

    @Override
    public Void visitClass(ClassTree tree, Void nothing) {
        classes++;
        Tree around = getCurrentPath().getParentPath().getLeaf();
        boolean outermost = around == program.unit;
        Set<Modifier> modifiers = tree.getModifiers().getFlags();
        rule(2, tree, "a class inside is static, and stands in no method",
            outermost || around instanceof ClassTree && modifiers.contains(Modifier.STATIC));
        int fields = 0;
        for (Tree member : tree.getMembers()) {
            rule(5, member, "no block of a class", member.getKind() != Tree.Kind.BLOCK);
            if (member instanceof VariableTree && !isStatic((VariableTree) member)) {
                fields++;
            }
        }
        rule(11, tree, "some twenty fields", fields <= MOST_FIELDS);
        String outer = reading;
        reading = tree.getSimpleName() + ".<init>";
        super.visitClass(tree, nothing);
        reading = outer;
        return null;
    }

    private static boolean isStatic(VariableTree field) {
        return field.getModifiers().getFlags().contains(Modifier.STATIC);
    }

    @Override
    public Void visitMethod(MethodTree tree, Void nothing) {
        rule(11, tree, "at most seven parameters", tree.getParameters().size() <= MOST_PARAMETERS);
        rule(11, tree, "some sixty lines", program.lines(tree) <= LONGEST);
        if (tree.getReturnType() != null) {
            String type = tree.getReturnType().toString();
            rule(3, tree, "the type " + type, type.equals("void") || TYPE.matcher(type).matches());
        }
        ExecutableElement method = (ExecutableElement) program.meaning(getCurrentPath());
        if (method.getKind() == ElementKind.METHOD) {
            boolean open = method.getModifiers().contains(Modifier.PUBLIC);
            (open ? publicNames : privateNames).add(tree.getName().toString());
        }
        String outer = reading;
        reading = Program.name(method);
        calls.computeIfAbsent(reading, name -> new LinkedHashSet<>());
        super.visitMethod(tree, nothing);
        reading = outer;
        return null;
    }

    @Override
    public Void visitVariable(VariableTree tree, Void nothing) {
        String type = tree.getType().toString();
        rule(3, tree, "the type " + type, TYPE.matcher(type).matches());
        if (isStatic(tree)) {
            boolean array = type.equals("int[]");
            rule(5, tree, "a static field is final, and has its value",
                tree.getModifiers().getFlags().contains(Modifier.FINAL) && tree.getInitializer() != null);
            rule(5, tree, "a static field is an int, or a row of them written out", array
                ? ((NewArrayTree) tree.getInitializer()).getInitializers() != null
                : type.equals("int") && isConstant(getCurrentPath()));
        }
        return super.visitVariable(tree, nothing);
    }

    private boolean isConstant(TreePath path) {
        Element element = program.meaning(path);
        return element instanceof VariableElement && ((VariableElement) element).getConstantValue() != null;
    }

    // ---- what stands in methods

    @Override
    public Void visitMethodInvocation(MethodInvocationTree tree, Void nothing) {
        called(tree, program.meaning(new TreePath(getCurrentPath(), tree.getMethodSelect())));
        return super.visitMethodInvocation(tree, nothing);
    }

    @Override
    public Void visitNewClass(NewClassTree tree, Void nothing) {
        rule(2, tree, "no class without a name", tree.getClassBody() == null);
        called(tree, program.meaning(getCurrentPath()));
        return super.visitNewClass(tree, nothing);
    }

    private void called(Tree tree, Element method) {
        String name = Program.name(method);
        boolean own = Program.isOwn(method);
        rule(4, tree, name + " is the program's own or in rule 4", own || LIBRARY.contains(name));
        boolean making = reading.endsWith(".<init>");
        rule(12, tree, "a constructor calls " + name, !making || !own || name.endsWith(".<init>"));
        calls.computeIfAbsent(reading, none -> new LinkedHashSet<>()).add(name);
    }

    @Override
    public Void visitMemberSelect(MemberSelectTree tree, Void nothing) {
        Element element = program.meaning(getCurrentPath());
        if (element != null && element.getKind() == ElementKind.FIELD) {
            rule(4, tree, "the field " + tree + " is the program's own", Program.isOwn(element));
        }
        return super.visitMemberSelect(tree, nothing);
    }

    @Override
    public Void visitNewArray(NewArrayTree tree, Void nothing) {
        for (ExpressionTree length : tree.getDimensions()) {
            rule(7, tree, "the length " + length + " is a constant", isConstantSum(length, getCurrentPath()));
        }
        return super.visitNewArray(tree, nothing);
    }

    private boolean isConstantSum(ExpressionTree tree, TreePath parent) {
        TreePath path = new TreePath(parent, tree);
        if (tree instanceof BinaryTree) {
            BinaryTree both = (BinaryTree) tree;
            return isConstantSum(both.getLeftOperand(), path) && isConstantSum(both.getRightOperand(), path);
        }
        return tree instanceof LiteralTree || isConstant(path);
    }

    @Override
    public Void visitBinary(BinaryTree tree, Void nothing) {
        if (tree.getKind() == Tree.Kind.DIVIDE || tree.getKind() == Tree.Kind.REMAINDER) {
            ExpressionTree divisor = tree.getRightOperand();
            rule(7, tree, "the divisor of " + tree + " is a number above 0",
                divisor instanceof LiteralTree && (Integer) ((LiteralTree) divisor).getValue() > 0);
        }
        return super.visitBinary(tree, nothing);
    }

    @Override
    public Void visitForLoop(ForLoopTree tree, Void nothing) {
        rule(9, tree, "a loop has a bound and counts", tree.getCondition() != null && tree.getUpdate().size() == 1);
        return super.visitForLoop(tree, nothing);
    }

    @Override
    public Void visitAssignment(AssignmentTree tree, Void nothing) {
        isNoConstant(tree.getVariable());
        return super.visitAssignment(tree, nothing);
    }

    @Override
    public Void visitCompoundAssignment(CompoundAssignmentTree tree, Void nothing) {
        rule(7, tree, "no division but by a number", tree.getKind() != Tree.Kind.DIVIDE_ASSIGNMENT
            && tree.getKind() != Tree.Kind.REMAINDER_ASSIGNMENT);
        isNoConstant(tree.getVariable());
        return super.visitCompoundAssignment(tree, nothing);
    }

    @Override
    public Void visitUnary(UnaryTree tree, Void nothing) {
        String kind = tree.getKind().name();
        if (kind.endsWith("CREMENT")) {
            isNoConstant(tree.getExpression());
        }
        return super.visitUnary(tree, nothing);
    }

    private void isNoConstant(ExpressionTree changed) {
        TreePath path = new TreePath(getCurrentPath(), changed);
        ExpressionTree row = changed instanceof ArrayAccessTree ? ((ArrayAccessTree) changed).getExpression() : changed;
        if (row instanceof IdentifierTree || row instanceof MemberSelectTree) {
            Element element = program.meaning(new TreePath(path, row));
            rule(5, changed, row + " is not static", !element.getModifiers().contains(Modifier.STATIC));
        }
    }

    // ---- what is known when all has been read

    private void closeNames() {
        CHECKS.holds("rule 11: at most twelve classes: " + classes, classes <= MOST_CLASSES);
        CHECKS.due("public methods", publicNames.size(), 20);
        for (String name : privateNames) {
            CHECKS.holds("rule 1: a public method is called " + name + " too", !publicNames.contains(name));
        }
    }

    private void closeCalls() {
        int deepest = 0;
        for (String method : calls.keySet()) {
            deepest = Math.max(deepest, depth(method, new HashSet<>()));
        }
        CHECKS.holds("rule 11: calls go at most eight deep: " + deepest, deepest > 1 && deepest <= DEEPEST);
    }

    /** How many calls stand open at once, the library's with them. */
    private int depth(String method, Set<String> open) {
        if (!open.add(method)) {
            CHECKS.holds("rule 8: " + method + " calls itself, and nothing counts how deep", false);
            return DEEPEST;
        }
        int most = 0;
        for (String next : calls.getOrDefault(method, Set.of())) {
            most = Math.max(most, depth(next, open));
        }
        open.remove(method);
        return 1 + most;
    }

    private static void holdsPlainSigns(String text) {
        boolean plain = true;
        for (int i = 0; i < text.length(); i++) {
            plain &= text.charAt(i) < 127;
        }
        CHECKS.holds("rule 4: only signs below 127", plain);
        CHECKS.holds("no package", !Pattern.compile("(?m)^package").matcher(text).find());
    }
}
