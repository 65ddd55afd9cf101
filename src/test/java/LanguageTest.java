import com.sun.source.tree.AssignmentTree;
import com.sun.source.tree.BinaryTree;
import com.sun.source.tree.BlockTree;
import com.sun.source.tree.ClassTree;
import com.sun.source.tree.CompoundAssignmentTree;
import com.sun.source.tree.DoWhileLoopTree;
import com.sun.source.tree.ExpressionTree;
import com.sun.source.tree.ForLoopTree;
import com.sun.source.tree.IdentifierTree;
import com.sun.source.tree.LiteralTree;
import com.sun.source.tree.MemberSelectTree;
import com.sun.source.tree.MethodInvocationTree;
import com.sun.source.tree.MethodTree;
import com.sun.source.tree.NewArrayTree;
import com.sun.source.tree.NewClassTree;
import com.sun.source.tree.Tree;
import com.sun.source.tree.TypeCastTree;
import com.sun.source.tree.UnaryTree;
import com.sun.source.tree.VariableTree;
import com.sun.source.tree.WhileLoopTree;
import com.sun.source.util.TreePath;
import com.sun.source.util.TreePathScanner;
import com.sun.source.util.TreeScanner;
import java.io.File;
import java.io.IOException;
import java.util.EnumSet;
import java.util.LinkedHashSet;
import java.util.List;
import java.util.Set;
import javax.lang.model.element.Element;
import javax.lang.model.element.Modifier;
import javax.lang.model.element.VariableElement;
import javax.lang.model.type.TypeMirror;

/**
 * The rules of LANGUAGE.md, by the compiler's own reading of the file; each row starts with the rule's number. It looks
 * for what the class uses now and is narrower than the rules: who wants more of them (a list, a text) widens it here.
 */
public final class LanguageTest {
    private static final int MOST_PARAMETERS = 7;
    private static final int MOST_LINES = 60;
    private static final int MOST_DEEP = 8;
    private static final int MOST_CLASSES = 12;
    private static final int MOST_FIELDS = 20;
    private static final String DEPTH = "deep";
    private static final String DEPTH_LIMIT = "DEEPEST";
    private static final Set<String> LIBRARY = Set.of("Math.max", "Math.min", "Object.<init>");
    private static final Set<Tree.Kind> NEVER = EnumSet.of(Tree.Kind.THROW, Tree.Kind.TRY, Tree.Kind.CATCH,
            Tree.Kind.SYNCHRONIZED, Tree.Kind.ASSERT, Tree.Kind.LAMBDA_EXPRESSION, Tree.Kind.MEMBER_REFERENCE,
            Tree.Kind.IMPORT, Tree.Kind.PACKAGE, Tree.Kind.ANNOTATION, Tree.Kind.INTERSECTION_TYPE);

    private final Source source;

    private LanguageTest(Source source) {
        this.source = source;
    }

    public static void main(String[] args) throws IOException {
        String file = args.length == 0 ? "src/main/java/JoinMaps.java" : args[0];
        LanguageTest test = new LanguageTest(new Source(new File(file)));
        Check.holds("the file has methods to look at", test.source.methods.size() > 100);
        test.classes();
        test.methods();
        test.library();
        test.recursion();
        test.new Walker().scan(test.source.unit, null);
        Check.end();
    }

    private void classes() {
        Check.holds("11: at most some twelve classes", source.classes.size() <= MOST_CLASSES);
        for (Element type : source.classes) {
            int own = 0;
            for (Element member : type.getEnclosedElements()) {
                own += member.getKind().isField() && !member.getModifiers().contains(Modifier.STATIC) ? 1 : 0;
            }
            Check.holds("11: " + type + " has " + own + " fields", own <= MOST_FIELDS);
        }
    }

    private void methods() {
        for (Element method : source.methods.keySet()) {
            MethodTree tree = source.methods.get(method);
            String name = Source.nameOf(method);
            int deep = source.deepest(method, new LinkedHashSet<>());
            Check.holds("11: " + name + " has " + tree.getParameters().size() + " parameters",
                    tree.getParameters().size() <= MOST_PARAMETERS);
            Check.holds("11: " + name + " has " + source.linesOf(tree) + " lines", source.linesOf(tree) <= MOST_LINES);
            Check.holds("11: " + name + " goes " + deep + " methods deep", deep <= MOST_DEEP);
        }
    }

    private void library() {
        for (Set<Element> called : source.calls.values()) {
            for (Element method : called) {
                boolean own = source.classes.contains(method.getEnclosingElement());
                Check.holds("4: " + Source.nameOf(method) + " is called", own || LIBRARY.contains(Source.nameOf(method)));
            }
        }
    }

    /** Only methods that call themselves, with the depth as an argument that grows and is held against its limit. */
    private void recursion() {
        for (Element method : source.methods.keySet()) {
            if (!source.recurs(method)) {
                continue;
            }
            String name = Source.nameOf(method);
            MethodTree tree = source.methods.get(method);
            int place = depthPlace(tree);
            Check.holds("8: " + name + " recurs and takes no depth", place >= 0);
            Check.holds("8: " + name + " recurs by itself", source.calls.get(method).contains(method));
            Check.holds("8: " + name + " looks at its depth", comparesDepth(tree));
            for (Element other : source.calls.get(method)) {
                Check.holds("8: " + name + " recurs through " + other,
                        other.equals(method) || !source.methods.containsKey(other) || !reaches(other, method));
            }
            checkDepthGrows(tree, place);
        }
    }

    private boolean reaches(Element from, Element to) {
        Set<Element> open = new LinkedHashSet<>();
        open.add(from);
        for (int found = 0; found < open.size();) {
            found = open.size();
            for (Element each : List.copyOf(open)) {
                open.addAll(source.calls.getOrDefault(each, Set.of()));
            }
        }
        return open.contains(to);
    }

    private static int depthPlace(MethodTree tree) {
        for (int i = 0; i < tree.getParameters().size(); i++) {
            if (tree.getParameters().get(i).getName().contentEquals(DEPTH)) {
                return i;
            }
        }
        return -1;
    }

    private static boolean comparesDepth(MethodTree tree) {
        String text = tree.getBody().toString();
        return text.contains(DEPTH + " > " + DEPTH_LIMIT) || text.contains(DEPTH + " <= " + DEPTH_LIMIT);
    }

    private static void checkDepthGrows(MethodTree tree, int place) {
        new TreeScanner<Void, Void>() {
            @Override
            public Void visitMethodInvocation(MethodInvocationTree call, Void none) {
                if (call.getMethodSelect().toString().equals(tree.getName().toString()) && place >= 0) {
                    Check.holds("8: " + call + " goes one deeper",
                            call.getArguments().get(place).toString().equals(DEPTH + " + 1"));
                }
                return super.visitMethodInvocation(call, none);
            }
        }.scan(tree.getBody(), null);
    }

    private final class Walker extends TreePathScanner<Void, Void> {
        private void holds(String what, Tree tree, boolean well) {
            Check.holds(what + ", line " + source.lineOf(tree) + ": " + tree, well);
        }

        private TypeMirror typeOf(Tree tree) {
            return source.trees.getTypeMirror(new TreePath(getCurrentPath(), tree));
        }

        private boolean isConstant(ExpressionTree tree) {
            Element element = source.trees.getElement(new TreePath(getCurrentPath(), tree));
            return element instanceof VariableElement && ((VariableElement) element).getConstantValue() != null;
        }

        /** A number above zero that the compiler knows, whole or put together by + and *. */
        private boolean isKnownPositive(ExpressionTree tree) {
            if (tree instanceof LiteralTree) {
                Object value = ((LiteralTree) tree).getValue();
                return value instanceof Number && ((Number) value).longValue() > 0;
            }
            if (tree instanceof BinaryTree) {
                BinaryTree both = (BinaryTree) tree;
                boolean grows = tree.getKind() == Tree.Kind.PLUS || tree.getKind() == Tree.Kind.MULTIPLY;
                return grows && isKnownPositive(both.getLeftOperand()) && isKnownPositive(both.getRightOperand());
            }
            if (!isConstant(tree)) {
                return false;
            }
            Element element = source.trees.getElement(new TreePath(getCurrentPath(), tree));
            return ((Number) ((VariableElement) element).getConstantValue()).longValue() > 0;
        }

        @Override
        public Void scan(Tree tree, Void none) {
            if (tree != null) {
                holds("2, 6: " + tree.getKind() + " stands in the file", tree, !NEVER.contains(tree.getKind()));
            }
            return super.scan(tree, none);
        }

        @Override
        public Void visitClass(ClassTree tree, Void none) {
            boolean outer = getCurrentPath().getParentPath().getLeaf() == source.unit;
            boolean within = getCurrentPath().getParentPath().getLeaf() instanceof ClassTree;
            Check.holds("2: " + tree.getSimpleName() + " is no class of its own or a static one within",
                    outer || (within && tree.getModifiers().getFlags().contains(Modifier.STATIC)));
            for (Tree member : tree.getMembers()) {
                holds("5: a block stands among the members", member, !(member instanceof BlockTree));
            }
            return super.visitClass(tree, none);
        }

        @Override
        public Void visitVariable(VariableTree tree, Void none) {
            Element element = source.trees.getElement(getCurrentPath());
            holds("3: of a type that the class does not need", tree, source.isPlain(element.asType()));
            if (element.getModifiers().contains(Modifier.STATIC)) {
                holds("5: static, and no constant", tree, ((VariableElement) element).getConstantValue() != null);
            }
            return super.visitVariable(tree, none);
        }

        @Override
        public Void visitNewClass(NewClassTree tree, Void none) {
            holds("2: a class without a name", tree, tree.getClassBody() == null);
            holds("4: an object of the library is made", tree, source.isOwn(typeOf(tree.getIdentifier())));
            return super.visitNewClass(tree, none);
        }

        @Override
        public Void visitNewArray(NewArrayTree tree, Void none) {
            holds("3: an array of more than one dimension", tree, tree.getDimensions().size() == 1);
            for (ExpressionTree length : tree.getDimensions()) {
                holds("7: a length that is not known", tree, isKnownPositive(length));
            }
            return super.visitNewArray(tree, none);
        }

        @Override
        public Void visitTypeCast(TypeCastTree tree, Void none) {
            holds("6: a cast of an object", tree, typeOf(tree.getType()).getKind().isPrimitive());
            return super.visitTypeCast(tree, none);
        }

        @Override
        public Void visitBinary(BinaryTree tree, Void none) {
            if (tree.getKind() == Tree.Kind.DIVIDE || tree.getKind() == Tree.Kind.REMAINDER) {
                holds("7: a divisor that is not known", tree, isKnownPositive(tree.getRightOperand()));
            }
            return super.visitBinary(tree, none);
        }

        @Override
        public Void visitCompoundAssignment(CompoundAssignmentTree tree, Void none) {
            holds("7: a divisor that is not looked at", tree, tree.getKind() != Tree.Kind.DIVIDE_ASSIGNMENT
                    && tree.getKind() != Tree.Kind.REMAINDER_ASSIGNMENT);
            return super.visitCompoundAssignment(tree, none);
        }

        @Override
        public Void visitForLoop(ForLoopTree tree, Void none) {
            holds("9: a loop without an end", tree, tree.getCondition() != null && changes(tree, tree.getCondition()));
            return super.visitForLoop(tree, none);
        }

        @Override
        public Void visitWhileLoop(WhileLoopTree tree, Void none) {
            holds("9: a loop without an end", tree, changes(tree.getStatement(), tree.getCondition()));
            return super.visitWhileLoop(tree, none);
        }

        @Override
        public Void visitDoWhileLoop(DoWhileLoopTree tree, Void none) {
            holds("9: a loop without an end", tree, changes(tree.getStatement(), tree.getCondition()));
            return super.visitDoWhileLoop(tree, none);
        }

        /** Whether a loop's own lines change a name that its condition looks at. */
        private boolean changes(Tree lines, Tree condition) {
            Set<String> looked = new LinkedHashSet<>();
            Set<String> changed = new LinkedHashSet<>();
            new Names(looked).scan(condition, null);
            new Changes(changed).scan(lines, null);
            looked.retainAll(changed);
            return !looked.isEmpty();
        }
    }

    private static final class Names extends TreeScanner<Void, Void> {
        private final Set<String> names;

        Names(Set<String> names) {
            this.names = names;
        }

        @Override
        public Void visitIdentifier(IdentifierTree tree, Void none) {
            names.add(tree.getName().toString());
            return null;
        }

        @Override
        public Void visitMemberSelect(MemberSelectTree tree, Void none) {
            names.add(tree.toString());
            return super.visitMemberSelect(tree, none);
        }
    }

    private static final class Changes extends TreeScanner<Void, Void> {
        private static final Set<Tree.Kind> STEPS = EnumSet.of(Tree.Kind.POSTFIX_INCREMENT, Tree.Kind.POSTFIX_DECREMENT,
                Tree.Kind.PREFIX_INCREMENT, Tree.Kind.PREFIX_DECREMENT);

        private final Set<String> names;

        Changes(Set<String> names) {
            this.names = names;
        }

        @Override
        public Void visitAssignment(AssignmentTree tree, Void none) {
            names.add(tree.getVariable().toString());
            return super.visitAssignment(tree, none);
        }

        @Override
        public Void visitCompoundAssignment(CompoundAssignmentTree tree, Void none) {
            names.add(tree.getVariable().toString());
            return super.visitCompoundAssignment(tree, none);
        }

        @Override
        public Void visitUnary(UnaryTree tree, Void none) {
            if (STEPS.contains(tree.getKind())) {
                names.add(tree.getExpression().toString());
            }
            return super.visitUnary(tree, none);
        }
    }
}
