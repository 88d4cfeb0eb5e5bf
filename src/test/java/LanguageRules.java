import com.sun.source.tree.AnnotationTree;
import com.sun.source.tree.AssertTree;
import com.sun.source.tree.AssignmentTree;
import com.sun.source.tree.BinaryTree;
import com.sun.source.tree.BlockTree;
import com.sun.source.tree.ClassTree;
import com.sun.source.tree.CompilationUnitTree;
import com.sun.source.tree.CompoundAssignmentTree;
import com.sun.source.tree.DoWhileLoopTree;
import com.sun.source.tree.ExpressionTree;
import com.sun.source.tree.ForLoopTree;
import com.sun.source.tree.IdentifierTree;
import com.sun.source.tree.ImportTree;
import com.sun.source.tree.InstanceOfTree;
import com.sun.source.tree.LambdaExpressionTree;
import com.sun.source.tree.LiteralTree;
import com.sun.source.tree.MemberReferenceTree;
import com.sun.source.tree.MemberSelectTree;
import com.sun.source.tree.MethodInvocationTree;
import com.sun.source.tree.MethodTree;
import com.sun.source.tree.NewArrayTree;
import com.sun.source.tree.NewClassTree;
import com.sun.source.tree.SynchronizedTree;
import com.sun.source.tree.ThrowTree;
import com.sun.source.tree.Tree;
import com.sun.source.tree.TryTree;
import com.sun.source.tree.TypeCastTree;
import com.sun.source.tree.UnaryTree;
import com.sun.source.tree.VariableTree;
import com.sun.source.tree.WhileLoopTree;
import com.sun.source.util.TreePath;
import com.sun.source.util.TreePathScanner;
import com.sun.source.util.TreeScanner;
import com.sun.source.util.Trees;
import java.util.HashSet;
import java.util.Map;
import java.util.Set;
import java.util.TreeMap;
import java.util.TreeSet;
import javax.lang.model.element.Element;
import javax.lang.model.element.ElementKind;
import javax.lang.model.element.ExecutableElement;
import javax.lang.model.element.Modifier;

/**
 * The rules of LANGUAGE.md that can be seen in a text. Where a rule leaves more than the program
 * needs (recursion, while, try, objects made by any method), the narrower way is asked for.
 */
final class LanguageRules extends TreePathScanner<Void, Void> {
    private static final Set<String> LIBRARY = Set.of("java.util.Arrays.fill", "java.lang.System.arraycopy",
            "java.lang.Math.min", "java.lang.Math.max", "java.lang.Math.abs", "java.lang.Integer.bitCount");
    private static final Set<String> THROWN = Set.of("IllegalStateException", "IllegalArgumentException",
            "IndexOutOfBoundsException", "ArithmeticException", "UnsupportedOperationException",
            "NoSuchElementException", "RuntimeException");
    private static final Set<String> NUMBERS = Set.of("int", "long", "short", "byte", "char", "boolean");
    private static final String OWN = "EscapeMill";
    private static final int MOST_PARAMETERS = 7;
    private static final int MOST_LINES = 60;
    private static final int MOST_DEEP = 8;
    private static final int MOST_CLASSES = 12;
    private static final int MOST_FIELDS = 20;

    private final Check check;
    private final Trees trees;
    private final CompilationUnitTree unit;
    private final Map<String, Set<String>> calls = new TreeMap<>();
    private final Set<String> publicNames = new HashSet<>();
    private final Set<String> otherNames = new TreeSet<>();
    private String method = "";
    private int classes = 0;

    LanguageRules(Check check, Trees trees, CompilationUnitTree unit) {
        this.check = check;
        this.trees = trees;
        this.unit = unit;
    }

    void look() {
        check.sentence("LANGUAGE.md: without a package line, one public class");
        check.holds("no package", unit.getPackageName() == null);
        check.due("classes of the file", unit.getTypeDecls().size(), 1);
        scan(unit, null);
        check.sentence("LANGUAGE.md, rule 1: no private method bears the name of a public one");
        for (String name : otherNames) {
            check.holds(name, !publicNames.contains(name));
        }
        check.sentence("LANGUAGE.md, rule 11: calls go at most eight deep, the file has at most some twelve classes");
        check.holds("classes: " + classes, classes <= MOST_CLASSES);
        for (String name : calls.keySet()) {
            int deep = depth(name, 0);
            check.holds(name + " is " + deep + " deep", deep <= MOST_DEEP);
        }
    }

    /** How many calls stand open at most, this one too; too many if it calls itself. */
    private int depth(String name, int above) {
        int deepest = 0;
        if (above < MOST_DEEP) {
            for (String callee : calls.getOrDefault(name, Set.of())) {
                deepest = Math.max(deepest, depth(callee, above + 1));
            }
        }
        return deepest + 1;
    }

    private void forbidden(int rule, String what, Tree tree) {
        check.sentence("LANGUAGE.md, rule " + rule);
        check.holds(what + " in line " + line(tree, false), false);
    }

    private void asked(int rule, String what, boolean held) {
        check.sentence("LANGUAGE.md, rule " + rule);
        check.holds(what, held);
    }

    private long line(Tree tree, boolean last) {
        long at = last ? trees.getSourcePositions().getEndPosition(unit, tree)
                : trees.getSourcePositions().getStartPosition(unit, tree);
        return unit.getLineMap().getLineNumber(at);
    }

    private Element element(Tree tree) {
        return trees.getElement(new TreePath(getCurrentPath(), tree));
    }

    @Override
    public Void visitImport(ImportTree tree, Void none) {
        String name = tree.getQualifiedIdentifier().toString();
        asked(4, "import " + name, Set.of("java.util.Arrays", "java.util.ArrayList", "java.util.List").contains(name));
        return null;
    }

    @Override
    public Void visitClass(ClassTree tree, Void none) {
        classes++;
        String name = tree.getSimpleName().toString();
        Set<Modifier> flags = tree.getModifiers().getFlags();
        if (getCurrentPath().getParentPath().getLeaf() == unit) {
            asked(1, "class " + name, name.equals(OWN) && flags.equals(Set.of(Modifier.PUBLIC, Modifier.FINAL)));
        } else {
            asked(1, "class " + name + " is private or package-visible and static", flags.contains(Modifier.STATIC)
                    && !flags.contains(Modifier.PUBLIC) && !flags.contains(Modifier.PROTECTED));
        }
        int fields = 0;
        for (Tree member : tree.getMembers()) {
            boolean isField = member instanceof VariableTree;
            fields += isField && !((VariableTree) member).getModifiers().getFlags().contains(Modifier.STATIC) ? 1 : 0;
            if (member instanceof BlockTree) {
                forbidden(5, "an initialiser block", member);
            }
        }
        asked(11, "class " + name + " has " + fields + " fields", fields <= MOST_FIELDS);
        return super.visitClass(tree, none);
    }

    @Override
    public Void visitMethod(MethodTree tree, Void none) {
        String before = method;
        String owner = trees.getElement(getCurrentPath()).getEnclosingElement().getSimpleName().toString();
        String name = tree.getName().toString();
        boolean isConstructor = tree.getReturnType() == null;
        method = owner + "." + name;
        calls.putIfAbsent(method, new TreeSet<>());
        if (tree.getModifiers().getFlags().contains(Modifier.PUBLIC)) {
            publicNames.add(name);
        } else if (!isConstructor) {
            otherNames.add(name);
        }
        boolean isOfAll = Set.of("equals", "hashCode", "toString", "compareTo").contains(name);
        asked(6, method + " is no equals, hashCode or toString", !isOfAll);
        if (!isConstructor) {
            Element returned = trees.getElement(getCurrentPath());
            asksType(method, ((ExecutableElement) returned).getReturnType().toString());
        }
        asked(11, method + " takes " + tree.getParameters().size(), tree.getParameters().size() <= MOST_PARAMETERS);
        long lines = line(tree, true) - line(tree, false) + 1;
        asked(11, method + " has " + lines + " lines", lines <= MOST_LINES);
        super.visitMethod(tree, none);
        method = before;
        return null;
    }

    @Override
    public Void visitVariable(VariableTree tree, Void none) {
        String type = trees.getTypeMirror(new TreePath(getCurrentPath(), tree.getType())).toString();
        asksType(tree.getName().toString(), type);
        if (tree.getModifiers().getFlags().contains(Modifier.STATIC)) {
            boolean isConstant = tree.getModifiers().getFlags().contains(Modifier.FINAL) && NUMBERS.contains(type)
                    && tree.getInitializer() != null;
            asked(5, "static " + tree.getName() + " is a constant", isConstant);
        }
        return super.visitVariable(tree, none);
    }

    private void asksType(String name, String type) {
        String plain = type.replace("[]", "");
        int dimensions = (type.length() - plain.length()) / 2;
        boolean isNothing = plain.equals("void");
        boolean isOwn = plain.equals(OWN) || plain.startsWith(OWN + ".");
        asked(3, name + " is " + type, isNothing || NUMBERS.contains(plain) && dimensions <= 2 || isOwn && dimensions <= 1);
    }

    @Override
    public Void visitMethodInvocation(MethodInvocationTree tree, Void none) {
        Element called = element(tree.getMethodSelect());
        Element owner = called.getEnclosingElement();
        String name = owner + "." + called.getSimpleName();
        if (owner.toString().startsWith(OWN)) {
            calls.computeIfAbsent(method, k -> new TreeSet<>()).add(owner.getSimpleName() + "." + called.getSimpleName());
        } else if (!name.equals("java.lang.Object.<init>")) {
            asked(4, name + " in line " + line(tree, false), LIBRARY.contains(name));
        }
        if (isBeingMade()) {
            asked(12, method + " calls " + name, name.equals("java.lang.Object.<init>"));
        }
        return super.visitMethodInvocation(tree, none);
    }

    @Override
    public Void visitThrow(ThrowTree tree, Void none) {
        boolean plain = tree.getExpression() instanceof NewClassTree;
        asked(6, "throw new in line " + line(tree, false), plain);
        if (plain) {
            NewClassTree made = (NewClassTree) tree.getExpression();
            boolean told = made.getArguments().stream().allMatch(a -> a instanceof LiteralTree);
            asked(6, "throw in line " + line(tree, false), THROWN.contains(made.getIdentifier().toString()) && told);
        }
        asked(6, "no throw in a constructor", !method.endsWith(".<init>"));
        return null;
    }

    @Override
    public Void visitNewClass(NewClassTree tree, Void none) {
        asked(12, "an object is made in " + method, isBeingMade());
        if (tree.getClassBody() != null) {
            forbidden(2, "an anonymous class", tree);
        }
        return super.visitNewClass(tree, none);
    }

    @Override
    public Void visitNewArray(NewArrayTree tree, Void none) {
        asked(12, "an array is made in " + method, isBeingMade());
        return super.visitNewArray(tree, none);
    }

    private boolean isBeingMade() {
        return method.isEmpty() || method.endsWith(".<init>");
    }

    @Override
    public Void visitForLoop(ForLoopTree tree, Void none) {
        boolean isCounted = tree.getInitializer().size() == 1 && tree.getInitializer().get(0) instanceof VariableTree
                && tree.getUpdate().size() == 1 && tree.getCondition() != null;
        if (isCounted) {
            String counter = ((VariableTree) tree.getInitializer().get(0)).getName().toString();
            String step = tree.getUpdate().get(0).toString();
            boolean up = step.equals(counter + "++;") && isBounded(tree.getCondition(), counter, Tree.Kind.LESS_THAN);
            boolean down = step.equals(counter + "--;")
                    && isBounded(tree.getCondition(), counter, Tree.Kind.GREATER_THAN_EQUAL);
            isCounted = (up || down) && !isChanged(tree.getStatement(), counter);
        }
        asked(9, "the loop in line " + line(tree, false) + " counts to a bound", isCounted);
        return super.visitForLoop(tree, none);
    }

    /** Whether the condition asks, with others or alone, that the counter is on this side of something. */
    private static boolean isBounded(ExpressionTree condition, String counter, Tree.Kind side) {
        if (condition.getKind() == Tree.Kind.CONDITIONAL_AND) {
            BinaryTree both = (BinaryTree) condition;
            return isBounded(both.getLeftOperand(), counter, side) || isBounded(both.getRightOperand(), counter, side);
        }
        return condition.getKind() == side && ((BinaryTree) condition).getLeftOperand().toString().equals(counter);
    }

    private static boolean isChanged(Tree body, String counter) {
        boolean[] changed = {false};
        new TreeScanner<Void, Void>() {
            @Override
            public Void visitAssignment(AssignmentTree tree, Void none) {
                changed[0] |= tree.getVariable().toString().equals(counter);
                return super.visitAssignment(tree, none);
            }

            @Override
            public Void visitCompoundAssignment(CompoundAssignmentTree tree, Void none) {
                changed[0] |= tree.getVariable().toString().equals(counter);
                return super.visitCompoundAssignment(tree, none);
            }

            @Override
            public Void visitUnary(UnaryTree tree, Void none) {
                boolean steps = tree.getKind().toString().endsWith("CREMENT");
                changed[0] |= steps && tree.getExpression().toString().equals(counter);
                return super.visitUnary(tree, none);
            }
        }.scan(body, null);
        return changed[0];
    }

    @Override
    public Void visitWhileLoop(WhileLoopTree tree, Void none) {
        forbidden(9, "a loop without a counter", tree);
        return super.visitWhileLoop(tree, none);
    }

    @Override
    public Void visitDoWhileLoop(DoWhileLoopTree tree, Void none) {
        forbidden(9, "a loop without a counter", tree);
        return super.visitDoWhileLoop(tree, none);
    }

    @Override
    public Void visitBinary(BinaryTree tree, Void none) {
        if (tree.getKind() == Tree.Kind.DIVIDE || tree.getKind() == Tree.Kind.REMAINDER) {
            forbidden(7, "a division", tree);
        }
        joinsNoText(tree, tree.getLeftOperand());
        joinsNoText(tree, tree.getRightOperand());
        return super.visitBinary(tree, none);
    }

    @Override
    public Void visitCompoundAssignment(CompoundAssignmentTree tree, Void none) {
        if (tree.getKind() == Tree.Kind.DIVIDE_ASSIGNMENT || tree.getKind() == Tree.Kind.REMAINDER_ASSIGNMENT) {
            forbidden(7, "a division", tree);
        }
        joinsNoText(tree, tree.getVariable());
        return super.visitCompoundAssignment(tree, none);
    }

    private void joinsNoText(Tree tree, ExpressionTree part) {
        if (trees.getTypeMirror(new TreePath(getCurrentPath(), part)).toString().equals("java.lang.String")) {
            forbidden(10, "texts that are joined or compared", tree);
        }
    }

    @Override
    public Void visitLambdaExpression(LambdaExpressionTree tree, Void none) {
        forbidden(2, "a lambda", tree);
        return super.visitLambdaExpression(tree, none);
    }

    @Override
    public Void visitMemberReference(MemberReferenceTree tree, Void none) {
        forbidden(2, "a method reference", tree);
        return super.visitMemberReference(tree, none);
    }

    @Override
    public Void visitTry(TryTree tree, Void none) {
        forbidden(6, "a try", tree);
        return super.visitTry(tree, none);
    }

    @Override
    public Void visitSynchronized(SynchronizedTree tree, Void none) {
        forbidden(6, "synchronized", tree);
        return super.visitSynchronized(tree, none);
    }

    @Override
    public Void visitAssert(AssertTree tree, Void none) {
        forbidden(6, "assert", tree);
        return super.visitAssert(tree, none);
    }

    @Override
    public Void visitAnnotation(AnnotationTree tree, Void none) {
        forbidden(4, "an annotation", tree);
        return super.visitAnnotation(tree, none);
    }

    @Override
    public Void visitTypeCast(TypeCastTree tree, Void none) {
        forbidden(6, "a cast", tree);
        return super.visitTypeCast(tree, none);
    }

    @Override
    public Void visitInstanceOf(InstanceOfTree tree, Void none) {
        forbidden(6, "instanceof", tree);
        return super.visitInstanceOf(tree, none);
    }

    @Override
    public Void visitLiteral(LiteralTree tree, Void none) {
        if (tree.getKind() == Tree.Kind.DOUBLE_LITERAL || tree.getKind() == Tree.Kind.FLOAT_LITERAL) {
            forbidden(3, "a double or float", tree);
        }
        return super.visitLiteral(tree, none);
    }

    @Override
    public Void visitIdentifier(IdentifierTree tree, Void none) {
        if (isBeingMade() && tree.getName().contentEquals("this")) {
            forbidden(12, "this in a constructor", tree);
        }
        return super.visitIdentifier(tree, none);
    }

    @Override
    public Void visitMemberSelect(MemberSelectTree tree, Void none) {
        Element chosen = trees.getElement(getCurrentPath());
        if (chosen != null && chosen.getKind() == ElementKind.FIELD) {
            String owner = String.valueOf(chosen.getEnclosingElement());
            boolean isLength = tree.getIdentifier().contentEquals("length") && owner.equals("Array");
            asked(13, tree + " in line " + line(tree, false), isLength || owner.startsWith(OWN));
        }
        return super.visitMemberSelect(tree, none);
    }
}
