import com.sun.source.tree.ArrayTypeTree;
import com.sun.source.tree.BinaryTree;
import com.sun.source.tree.ClassTree;
import com.sun.source.tree.CompilationUnitTree;
import com.sun.source.tree.ExpressionStatementTree;
import com.sun.source.tree.ForLoopTree;
import com.sun.source.tree.ImportTree;
import com.sun.source.tree.MethodInvocationTree;
import com.sun.source.tree.MethodTree;
import com.sun.source.tree.NewArrayTree;
import com.sun.source.tree.NewClassTree;
import com.sun.source.tree.ParenthesizedTree;
import com.sun.source.tree.Tree;
import com.sun.source.tree.UnaryTree;
import com.sun.source.tree.VariableTree;
import com.sun.source.util.JavacTask;
import com.sun.source.util.SourcePositions;
import com.sun.source.util.TreePath;
import com.sun.source.util.TreePathScanner;
import com.sun.source.util.Trees;
import java.io.IOException;
import java.nio.file.Path;
import java.util.EnumSet;
import java.util.HashMap;
import java.util.List;
import java.util.Map;
import java.util.Set;
import java.util.TreeSet;
import javax.lang.model.element.Element;
import javax.lang.model.element.Modifier;
import javax.tools.JavaCompiler;
import javax.tools.StandardJavaFileManager;
import javax.tools.ToolProvider;

/**
 * The rules of LANGUAGE.md that can be read off the source. It is stricter than they are: what the
 * class does not use so far is ruled out whole, so that whoever uses it reads the rule first.
 */
public final class LanguageTest {
    private static final Path SOURCE = Path.of("src/main/java/CodeVerifier.java");
    private static final int MOST_PARAMETERS = 7;
    private static final int MOST_LINES = 60;
    private static final int MOST_DEPTH = 8;
    private static final int MOST_CLASSES = 12;
    private static final int MOST_FIELDS = 20;
    private static final Set<String> LIBRARY = Set.of("java.util.Arrays.fill", "java.lang.Math.min");
    private static final Set<String> PLAIN_TYPES = Set.of("int", "boolean", "int[]");
    private static final Set<Tree.Kind> RULED_OUT = EnumSet.of(
            Tree.Kind.THROW, Tree.Kind.TRY, Tree.Kind.CATCH, Tree.Kind.SYNCHRONIZED, Tree.Kind.ASSERT,
            Tree.Kind.LAMBDA_EXPRESSION, Tree.Kind.MEMBER_REFERENCE, Tree.Kind.SWITCH_EXPRESSION, Tree.Kind.YIELD,
            Tree.Kind.INSTANCE_OF, Tree.Kind.TYPE_CAST, Tree.Kind.DIVIDE, Tree.Kind.REMAINDER,
            Tree.Kind.DIVIDE_ASSIGNMENT, Tree.Kind.REMAINDER_ASSIGNMENT, Tree.Kind.WHILE_LOOP,
            Tree.Kind.DO_WHILE_LOOP, Tree.Kind.ENHANCED_FOR_LOOP, Tree.Kind.LABELED_STATEMENT,
            Tree.Kind.STRING_LITERAL, Tree.Kind.CHAR_LITERAL, Tree.Kind.LONG_LITERAL, Tree.Kind.DOUBLE_LITERAL,
            Tree.Kind.FLOAT_LITERAL, Tree.Kind.ENUM, Tree.Kind.INTERFACE, Tree.Kind.RECORD,
            Tree.Kind.ANNOTATION_TYPE, Tree.Kind.ANNOTATION, Tree.Kind.PARAMETERIZED_TYPE);

    private final CompilationUnitTree unit;
    private final Trees trees;
    private final Set<String> ownClasses = new TreeSet<>();
    private final Map<String, Set<String>> calls = new HashMap<>();

    private LanguageTest(CompilationUnitTree unit, Trees trees) {
        this.unit = unit;
        this.trees = trees;
    }

    public static void main(String[] args) throws IOException {
        JavaCompiler compiler = ToolProvider.getSystemJavaCompiler();
        try (StandardJavaFileManager files = compiler.getStandardFileManager(null, null, null)) {
            List<String> options = List.of("-proc:none");
            JavacTask task = (JavacTask) compiler.getTask(
                    null, files, null, options, null, files.getJavaFileObjects(SOURCE));
            CompilationUnitTree unit = task.parse().iterator().next();
            task.analyze();
            new LanguageTest(unit, Trees.instance(task)).holdAgainstTheRules();
        }
        Due.end();
    }

    private void holdAgainstTheRules() {
        oneFile();
        new Reader().scan(unit, null);
        Due.rule(11, "the file has at most some twelve classes");
        Due.is("at most " + MOST_CLASSES + " of " + ownClasses, ownClasses.size() <= MOST_CLASSES, true);
        for (String method : calls.keySet()) {
            Due.rule(11, "calls that are no recursion go at most eight deep");
            Due.is(method + " is at most eight deep", depthOf(method, MOST_DEPTH + 1) <= MOST_DEPTH, true);
        }
    }

    private void oneFile() {
        Due.rule(0, "without a package line, one public class");
        Due.is("a package line", unit.getPackage() != null, false);
        Due.is("classes outside", unit.getTypeDecls().size(), 1);
        Due.rule(4, "only what stands here");
        for (ImportTree each : unit.getImports()) {
            Due.is(each.toString().trim(), each.getQualifiedIdentifier().toString().equals("java.util.Arrays"), true);
        }
    }

    /** How many calls stand open at once from a method on; a recursion is as deep as the limit. */
    private int depthOf(String method, int limit) {
        if (limit == 0) {
            return 0;
        }
        int deepest = 0;
        for (String called : calls.getOrDefault(method, Set.of())) {
            deepest = Math.max(deepest, depthOf(called, limit - 1));
        }
        return 1 + deepest;
    }

    private final class Reader extends TreePathScanner<Void, Void> {
        private String method = "";
        private int loops = 0;

        @Override
        public Void scan(Tree tree, Void nothing) {
            if (tree != null) {
                Due.rule(6, "and what else the class does without");
                Due.is(at(tree) + tree.getKind(), RULED_OUT.contains(tree.getKind()), false);
            }
            return super.scan(tree, nothing);
        }

        @Override
        public Void visitClass(ClassTree tree, Void nothing) {
            boolean isOuter = getCurrentPath().getParentPath().getLeaf() == unit;
            Set<Modifier> modifiers = tree.getModifiers().getFlags();
            Due.rule(2, "static nested classes; no local or anonymous class");
            Due.is(at(tree) + tree.getSimpleName(), isOuter || modifiers.contains(Modifier.STATIC), true);
            Due.is(at(tree) + "a class without a name", tree.getSimpleName().length() == 0, false);
            ownClasses.add(tree.getSimpleName().toString());
            int fields = 0;
            for (Tree member : tree.getMembers()) {
                Due.rule(5, "no static initialiser block");
                Due.is(at(member) + "a block", member.getKind() == Tree.Kind.BLOCK, false);
                if (member instanceof VariableTree field) {
                    fields += field.getModifiers().getFlags().contains(Modifier.STATIC) ? 0 : 1;
                    checkField(field, isOuter);
                }
            }
            Due.rule(11, "a class some twenty fields beside its constants");
            Due.is(at(tree) + tree.getSimpleName(), fields <= MOST_FIELDS, true);
            return super.visitClass(tree, nothing);
        }

        private void checkField(VariableTree field, boolean isOfOuter) {
            Set<Modifier> modifiers = field.getModifiers().getFlags();
            if (modifiers.contains(Modifier.STATIC)) {
                Due.rule(5, "Static fields are final: constants of int");
                Due.is(at(field) + field.getName(), modifiers.contains(Modifier.FINAL), true);
                Due.is(at(field) + field.getName(), field.getType().toString().equals("int"), true);
            } else if (isOfOuter) {
                Due.rule(1, "no other public, protected or package-visible member");
                Due.is(at(field) + field.getName(), modifiers.contains(Modifier.PRIVATE), true);
            }
        }

        @Override
        public Void visitVariable(VariableTree tree, Void nothing) {
            String type = tree.getType().toString();
            Due.rule(3, "int, boolean; arrays of these and of your own classes, of one dimension; your own classes");
            Due.is(at(tree) + tree, PLAIN_TYPES.contains(type) || isOwn(tree.getType()), true);
            return super.visitVariable(tree, nothing);
        }

        private boolean isOwn(Tree type) {
            Tree bare = type instanceof ArrayTypeTree row ? row.getType() : type;
            Element element = trees.getElement(new TreePath(getCurrentPath(), bare));
            return bare.getKind() == Tree.Kind.IDENTIFIER && element != null
                    && element.toString().startsWith("CodeVerifier.");
        }

        @Override
        public Void visitMethod(MethodTree tree, Void nothing) {
            method = nameOf(trees.getElement(getCurrentPath()));
            calls.putIfAbsent(method, new TreeSet<>());
            Due.rule(11, "A method takes at most seven parameters");
            Due.is(at(tree) + method, tree.getParameters().size() <= MOST_PARAMETERS, true);
            Due.rule(11, "Methods stay short (some sixty lines)");
            Due.is(at(tree) + method, linesOf(tree) <= MOST_LINES, true);
            super.visitMethod(tree, nothing);
            method = "";
            return null;
        }

        @Override
        public Void visitMethodInvocation(MethodInvocationTree tree, Void nothing) {
            noteCall(tree);
            return super.visitMethodInvocation(tree, nothing);
        }

        private void noteCall(Tree tree) {
            Element called = trees.getElement(getCurrentPath());
            String name = nameOf(called);
            boolean isOwn = called.getEnclosingElement().toString().startsWith("CodeVerifier");
            String plain = name.substring(0, name.indexOf('('));
            Due.rule(4, "only what stands here");
            Due.is(at(tree) + name, isOwn || LIBRARY.contains(plain) || plain.equals("java.lang.Object.Object"), true);
            calls.computeIfAbsent(method, none -> new TreeSet<>()).add(name);
        }

        @Override
        public Void visitNewClass(NewClassTree tree, Void nothing) {
            noteCall(tree);
            Due.rule(12, "no object in a loop");
            Due.is(at(tree) + tree, loops, 0);
            return super.visitNewClass(tree, nothing);
        }

        @Override
        public Void visitNewArray(NewArrayTree tree, Void nothing) {
            Due.rule(12, "no array in a loop");
            Due.is(at(tree) + tree, loops, 0);
            Due.rule(7, "a length that is a constant, of one dimension");
            Due.is(at(tree) + tree, tree.getDimensions().size(), 1);
            for (Tree length : tree.getDimensions()) {
                Element constant = trees.getElement(new TreePath(getCurrentPath(), length));
                boolean isConstant = constant != null && constant.getModifiers().contains(Modifier.STATIC);
                Due.is(at(tree) + tree, isConstant, true);
            }
            return super.visitNewArray(tree, nothing);
        }

        @Override
        public Void visitForLoop(ForLoopTree tree, Void nothing) {
            Due.rule(9, "a counter against a bound");
            Due.is(at(tree) + "the loop counts", isCounting(tree), true);
            loops++;
            super.visitForLoop(tree, nothing);
            loops--;
            return null;
        }

        private String nameOf(Element element) {
            String plain = element.getEnclosingElement() + "." + element;
            return element.getSimpleName().contentEquals("<init>")
                    ? element.getEnclosingElement() + "." + element.getEnclosingElement().getSimpleName() + "(..)"
                    : plain;
        }
    }

    /** A loop over one int, up by one to below a bound or down by one to a bound, that alone changes it. */
    private static boolean isCounting(ForLoopTree tree) {
        if (tree.getInitializer().size() != 1 || tree.getUpdate().size() != 1 || tree.getCondition() == null) {
            return false;
        }
        ExpressionStatementTree update = tree.getUpdate().get(0);
        if (!(tree.getInitializer().get(0) instanceof VariableTree counter)
                || !(update.getExpression() instanceof UnaryTree step)
                || !step.getExpression().toString().contentEquals(counter.getName())) {
            return false;
        }
        boolean isUp = step.getKind() == Tree.Kind.POSTFIX_INCREMENT;
        Tree.Kind bound = isUp ? Tree.Kind.LESS_THAN : Tree.Kind.GREATER_THAN_EQUAL;
        return isBounded(firstOf(tree.getCondition()), counter.getName().toString(), bound)
                && !isChanged(tree.getStatement(), counter.getName().toString());
    }

    /** The first of the conditions that && joins. */
    private static Tree firstOf(Tree condition) {
        Tree first = condition instanceof ParenthesizedTree p ? p.getExpression() : condition;
        while (first instanceof BinaryTree both && both.getKind() == Tree.Kind.CONDITIONAL_AND) {
            first = both.getLeftOperand();
        }
        return first;
    }

    private static boolean isBounded(Tree condition, String counter, Tree.Kind bound) {
        return condition instanceof BinaryTree test && test.getKind() == bound
                && test.getLeftOperand().toString().equals(counter);
    }

    private static boolean isChanged(Tree body, String counter) {
        return body.toString().matches("(?s).*\\b" + counter + " ?(=[^=]|\\+\\+|--|\\+=|-=).*");
    }

    private int linesOf(Tree tree) {
        SourcePositions positions = trees.getSourcePositions();
        long first = unit.getLineMap().getLineNumber(positions.getStartPosition(unit, tree));
        long last = positions.getEndPosition(unit, tree);
        return last < 0 ? 1 : (int) (unit.getLineMap().getLineNumber(last) - first + 1);
    }

    private String at(Tree tree) {
        long start = trees.getSourcePositions().getStartPosition(unit, tree);
        return start < 0 ? "" : "line " + unit.getLineMap().getLineNumber(start) + ": ";
    }
}
