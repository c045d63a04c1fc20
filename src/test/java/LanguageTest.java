import com.sun.source.tree.BinaryTree;
import com.sun.source.tree.ClassTree;
import com.sun.source.tree.CompilationUnitTree;
import com.sun.source.tree.ExpressionTree;
import com.sun.source.tree.ForLoopTree;
import com.sun.source.tree.IdentifierTree;
import com.sun.source.tree.ImportTree;
import com.sun.source.tree.LiteralTree;
import com.sun.source.tree.MemberSelectTree;
import com.sun.source.tree.MethodInvocationTree;
import com.sun.source.tree.MethodTree;
import com.sun.source.tree.NewArrayTree;
import com.sun.source.tree.NewClassTree;
import com.sun.source.tree.Tree;
import com.sun.source.tree.VariableTree;
import com.sun.source.tree.WhileLoopTree;
import com.sun.source.util.JavacTask;
import com.sun.source.util.TreePathScanner;
import java.io.IOException;
import java.nio.charset.StandardCharsets;
import java.nio.file.Files;
import java.nio.file.Path;
import java.util.HashMap;
import java.util.HashSet;
import java.util.List;
import java.util.Map;
import java.util.Set;
import java.util.TreeSet;
import javax.lang.model.element.Modifier;
import javax.tools.JavaCompiler;
import javax.tools.StandardJavaFileManager;
import javax.tools.ToolProvider;

/**
 * The rules of LANGUAGE.md, as narrow as the class needs them: it throws and catches nothing, and makes objects in
 * constructors and in the first values of fields alone. FaceTest looks at rule 1's names.
 */
public final class LanguageTest {
    private static final Path FILE = Path.of("src/main/java/PierRings.java");
    private static final int MOST_LINES = 60;
    private static final int MOST_PARAMETERS = 7;
    private static final int MOST_FIELDS = 20;
    private static final int MOST_CLASSES = 12;
    private static final int MOST_CALLS = 8;

    /** Kinds of a tree that rules 2, 6, 9 and 10 leave out, or that the class does without. */
    private static final Set<Tree.Kind> LEFT_OUT = Set.of(
        Tree.Kind.LAMBDA_EXPRESSION, Tree.Kind.MEMBER_REFERENCE, Tree.Kind.TRY, Tree.Kind.CATCH, Tree.Kind.THROW,
        Tree.Kind.SYNCHRONIZED, Tree.Kind.ASSERT, Tree.Kind.DO_WHILE_LOOP, Tree.Kind.ENHANCED_FOR_LOOP,
        Tree.Kind.INSTANCE_OF, Tree.Kind.ANNOTATION, Tree.Kind.SWITCH_EXPRESSION, Tree.Kind.YIELD,
        Tree.Kind.RECORD, Tree.Kind.ENUM, Tree.Kind.INTERFACE, Tree.Kind.ANNOTATION_TYPE);

    /** What the class takes of rule 4's library. */
    private static final Set<String> LIBRARY = Set.of(
        "Arrays.fill", "Math.max", "Math.min", "Math.floorMod", "System.arraycopy", "word.length", "word.charAt",
        "wordOf(word).length");

    private final Due due = new Due("LanguageTest");
    private final Map<String, Set<String>> callsOf = new HashMap<>();
    private final Set<String> classes = new TreeSet<>();
    private final String text;
    private final CompilationUnitTree unit;

    private LanguageTest() throws IOException {
        text = Files.readString(FILE, StandardCharsets.UTF_8);
        JavaCompiler compiler = ToolProvider.getSystemJavaCompiler();
        try (StandardJavaFileManager files = compiler.getStandardFileManager(null, null, StandardCharsets.UTF_8)) {
            JavacTask task = (JavacTask) compiler.getTask(null, files, null, null, null, files.getJavaFileObjects(FILE));
            unit = task.parse().iterator().next();
        }
    }

    public static void main(String[] args) throws IOException {
        LanguageTest test = new LanguageTest();
        test.theFile();
        test.new Rules().scan(test.unit, null);
        test.theCalls();
        test.due.end();
    }

    private void theFile() {
        due.begin("the file");
        due.isText("rule 4: its imports", imports().toString(), "[java.util.Arrays]");
        due.is("rule 0: it has no package", unit.getPackageName() == null ? 1 : 0, 1);
        due.is("rule 1: classes beside the outer one", unit.getTypeDecls().size(), 1);
        int strange = 0;
        for (int i = 0; i < text.length(); i++) {
            strange += text.charAt(i) > 126 ? 1 : 0;
        }
        due.is("rule 4: signs above 126", strange, 0);
    }

    private Set<String> imports() {
        Set<String> names = new TreeSet<>();
        for (ImportTree each : unit.getImports()) {
            names.add((each.isStatic() ? "static " : "") + each.getQualifiedIdentifier());
        }
        return names;
    }

    /** Rules 8 and 11: no method calls itself again, and at most eight calls stand open at once. */
    private void theCalls() {
        due.begin("the calls");
        due.is("rule 11: classes", classes.size() <= MOST_CLASSES ? 1 : 0, 1);
        for (String method : callsOf.keySet()) {
            int most = callsBelow(method, new HashSet<>());
            due.is("rules 8 and 11: the calls open at once from " + method + ", " + most, most <= MOST_CALLS ? 1 : 0, 1);
        }
    }

    private int callsBelow(String method, Set<String> open) {
        if (!open.add(method)) {
            return 1000;
        }
        int most = 0;
        for (String other : callsOf.getOrDefault(method, Set.of())) {
            most = Math.max(most, callsBelow(other, open));
        }
        open.remove(method);
        return most + 1;
    }

    private final class Rules extends TreePathScanner<Void, Void> {
        private String method = "";

        @Override
        public Void scan(Tree tree, Void none) {
            if (tree != null) {
                due.begin(method.isEmpty() ? "outside of the methods" : method);
                due.is("a " + tree.getKind() + " is left out", LEFT_OUT.contains(tree.getKind()) ? 1 : 0, 0);
            }
            return super.scan(tree, none);
        }

        @Override
        public Void visitClass(ClassTree tree, Void none) {
            classes.add(tree.getSimpleName().toString());
            boolean isOuter = tree.getSimpleName().contentEquals("PierRings");
            Set<Modifier> is = tree.getModifiers().getFlags();
            due.is("rule 1: " + tree.getSimpleName() + " is public or private", is.contains(isOuter ? Modifier.PUBLIC : Modifier.PRIVATE) ? 1 : 0, 1);
            due.is("rule 2: " + tree.getSimpleName() + " is static", isOuter || is.contains(Modifier.STATIC) ? 1 : 0, 1);
            int fields = 0;
            for (Tree member : tree.getMembers()) {
                fields += isFieldOfObjects(member) ? 1 : 0;
                due.is("rule 5: a static block", member.getKind() == Tree.Kind.BLOCK ? 1 : 0, 0);
            }
            due.is("rule 11: " + tree.getSimpleName() + " has " + fields + " fields", fields <= MOST_FIELDS ? 1 : 0, 1);
            return super.visitClass(tree, none);
        }

        private boolean isFieldOfObjects(Tree member) {
            if (!(member instanceof VariableTree)) {
                return false;
            }
            Set<Modifier> is = ((VariableTree) member).getModifiers().getFlags();
            boolean isStatic = is.contains(Modifier.STATIC);
            due.is("rule 5: static, but not final: " + member, isStatic && !is.contains(Modifier.FINAL) ? 1 : 0, 0);
            return !isStatic;
        }

        @Override
        public Void visitMethod(MethodTree tree, Void none) {
            String of = ((ClassTree) getCurrentPath().getParentPath().getLeaf()).getSimpleName().toString();
            boolean isConstructor = tree.getReturnType() == null;
            method = isConstructor ? "new " + of : tree.getName().toString();
            due.is("rule 8: another method has the name " + method, callsOf.containsKey(method) && !isShared(method) ? 1 : 0, 0);
            callsOf.putIfAbsent(method, new HashSet<>());
            due.is("rule 11: parameters", tree.getParameters().size() <= MOST_PARAMETERS ? 1 : 0, 1);
            due.is("rule 11: lines", tree.toString().split("\n").length <= MOST_LINES ? 1 : 0, 1);
            super.visitMethod(tree, none);
            method = "";
            return none;
        }

        /** This one stands in several classes and calls nothing. */
        private boolean isShared(String name) {
            return name.equals("empty") && callsOf.get(name).isEmpty();
        }

        @Override
        public Void visitMethodInvocation(MethodInvocationTree tree, Void none) {
            ExpressionTree called = tree.getMethodSelect();
            if (called instanceof MemberSelectTree) {
                MemberSelectTree select = (MemberSelectTree) called;
                take(select.getIdentifier().toString(), select.toString());
            } else if (called instanceof IdentifierTree) {
                take(called.toString(), called.toString());
            }
            return super.visitMethodInvocation(tree, none);
        }

        private void take(String name, String whole) {
            if (LIBRARY.contains(whole)) {
                callsOf.computeIfAbsent(method, absent -> new HashSet<>()).add(whole);
                return;
            }
            boolean isLibrary = List.of("Arrays", "Math", "System", "Integer", "Long", "String", "Character").contains(whole.split("\\.")[0]);
            due.is("rule 4: " + whole + " is no method of the class", isLibrary ? 1 : 0, 0);
            callsOf.computeIfAbsent(method, absent -> new HashSet<>()).add(name);
        }

        @Override
        public Void visitNewClass(NewClassTree tree, Void none) {
            String made = tree.getIdentifier().toString();
            due.is("rule 12: " + method + " makes " + made, isWhereObjectsAreMade() ? 1 : 0, 1);
            due.is("rule 2: an anonymous " + made, tree.getClassBody() == null ? 1 : 0, 1);
            callsOf.computeIfAbsent(method, absent -> new HashSet<>()).add("new " + made);
            return super.visitNewClass(tree, none);
        }

        @Override
        public Void visitNewArray(NewArrayTree tree, Void none) {
            due.is("rule 12: " + method + " makes an array", isWhereObjectsAreMade() ? 1 : 0, 1);
            return super.visitNewArray(tree, none);
        }

        private boolean isWhereObjectsAreMade() {
            return method.isEmpty() || method.startsWith("new ");
        }

        @Override
        public Void visitBinary(BinaryTree tree, Void none) {
            boolean joins = tree.getKind() == Tree.Kind.PLUS && (isText(tree.getLeftOperand()) || isText(tree.getRightOperand()));
            due.is("rule 10: texts joined by +", joins ? 1 : 0, 0);
            return super.visitBinary(tree, none);
        }

        private boolean isText(Tree tree) {
            return tree instanceof LiteralTree && ((LiteralTree) tree).getValue() instanceof String;
        }

        @Override
        public Void visitForLoop(ForLoopTree tree, Void none) {
            due.is("rule 9: a loop without an end", tree.getCondition() == null ? 1 : 0, 0);
            return super.visitForLoop(tree, none);
        }

        @Override
        public Void visitWhileLoop(WhileLoopTree tree, Void none) {
            due.is("rule 9: a loop without an end", tree.getCondition().toString().equals("(true)") ? 1 : 0, 0);
            return super.visitWhileLoop(tree, none);
        }
    }
}
