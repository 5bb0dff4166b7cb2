import com.sun.source.tree.AnnotationTree;
import com.sun.source.tree.AssertTree;
import com.sun.source.tree.BinaryTree;
import com.sun.source.tree.ClassTree;
import com.sun.source.tree.CompilationUnitTree;
import com.sun.source.tree.DoWhileLoopTree;
import com.sun.source.tree.ExpressionTree;
import com.sun.source.tree.ForLoopTree;
import com.sun.source.tree.IdentifierTree;
import com.sun.source.tree.ImportTree;
import com.sun.source.tree.InstanceOfTree;
import com.sun.source.tree.LambdaExpressionTree;
import com.sun.source.tree.LiteralTree;
import com.sun.source.tree.MemberReferenceTree;
import com.sun.source.tree.MemberSelectTree;
import com.sun.source.tree.MethodInvocationTree;
import com.sun.source.tree.MethodTree;
import com.sun.source.tree.NewArrayTree;
import com.sun.source.tree.NewClassTree;
import com.sun.source.tree.SynchronizedTree;
import com.sun.source.tree.ThrowTree;
import com.sun.source.tree.Tree;
import com.sun.source.tree.TryTree;
import com.sun.source.tree.TypeCastTree;
import com.sun.source.tree.VariableTree;
import com.sun.source.tree.WhileLoopTree;
import com.sun.source.util.JavacTask;
import com.sun.source.util.TreePath;
import com.sun.source.util.TreePathScanner;
import java.io.IOException;
import java.nio.file.Path;
import java.util.HashSet;
import java.util.Map;
import java.util.Set;
import java.util.TreeMap;
import java.util.TreeSet;
import javax.lang.model.element.Modifier;
import javax.tools.JavaCompiler;
import javax.tools.StandardJavaFileManager;
import javax.tools.ToolProvider;

/**
 * The rules of LANGUAGE.md that can be read off the source. It is stricter than they are where the class needs less:
 * what the class does not use today (lists, texts, try, casts) is refused, so that whoever brings it in looks at the
 * rule about it first.
 */
public final class LanguageTest {
    private static final Path SOURCE = Path.of("src", "main", "java", "Entitled.java");
    private static final Set<String> TYPES = Set.of("Entitled", "Install", "Entitlement");
    private static final Set<String> LIBRARY = Set.of("Math.max", "System.arraycopy");
    private static final Set<String> EXCEPTIONS = Set.of("IllegalStateException", "IllegalArgumentException",
            "IndexOutOfBoundsException", "ArithmeticException", "UnsupportedOperationException",
            "NoSuchElementException", "RuntimeException");
    private static final Set<String> STATIC_TYPES = Set.of("int", "long", "boolean", "char", "String");

    private static final int MOST_PARAMETERS = 7;
    private static final int MOST_LINES = 60;
    private static final int MOST_DEEP = 8;
    private static final int MOST_CLASSES = 12;
    private static final int MOST_FIELDS = 20;

    private static final Checks checks = new Checks();

    public static void main(String[] args) throws IOException {
        JavaCompiler compiler = ToolProvider.getSystemJavaCompiler();
        try (StandardJavaFileManager files = compiler.getStandardFileManager(null, null, null)) {
            JavacTask task = (JavacTask) compiler.getTask(null, files, null, null, null,
                    files.getJavaFileObjects(args.length == 0 ? SOURCE : Path.of(args[0])));
            for (CompilationUnitTree unit : task.parse()) {
                checks.due("a package line", unit.getPackage() == null, true);
                checks.due("classes beside the public one", unit.getTypeDecls().size(), 1);
                Rules rules = new Rules();
                rules.scan(unit, null);
                rules.end();
            }
        }
        checks.end();
    }

    private static void none(String rule, Object found) {
        checks.due(rule + ": " + found, "found", "none");
    }

    private static final class Rules extends TreePathScanner<Void, Void> {
        private final Map<String, Set<String>> callsOf = new TreeMap<>();
        private final Set<String> publicNames = new TreeSet<>();
        private final Set<String> otherNames = new TreeSet<>();
        private String method = "";
        private boolean inConstructor;
        private int classes;

        void end() {
            checks.about("rule 1");
            Set<String> both = new TreeSet<>(publicNames);
            both.retainAll(otherNames);
            checks.due("public names of private methods", both, Set.of());
            checks.about("rule 11");
            checks.due(classes + " classes are too many", classes > MOST_CLASSES, false);
            for (String name : callsOf.keySet()) {
                int deep = deepest(name, new HashSet<>());
                checks.due(name + " goes " + deep + " deep", deep > MOST_DEEP, false);
            }
        }

        /** Calls that stand open already are recursion, which rule 8 counts, and not rule 11. */
        private int deepest(String name, Set<String> open) {
            int most = 0;
            open.add(name);
            for (String called : callsOf.getOrDefault(name, Set.of())) {
                most = open.contains(called) ? most : Math.max(most, deepest(called, open));
            }
            open.remove(name);
            return most + 1;
        }

        @Override
        public Void visitClass(ClassTree tree, Void nothing) {
            classes++;
            Set<Modifier> flags = tree.getModifiers().getFlags();
            boolean outer = tree.getSimpleName().contentEquals("Entitled");
            checks.about("rule 2");
            checks.due(tree.getSimpleName() + " is hidden and static, or the face",
                    outer ? flags.contains(Modifier.PUBLIC) && flags.contains(Modifier.FINAL)
                            : flags.contains(Modifier.PRIVATE) && flags.contains(Modifier.STATIC), true);
            int fields = 0;
            for (Tree member : tree.getMembers()) {
                if (member instanceof VariableTree) {
                    fields += checkField((VariableTree) member) ? 0 : 1;
                } else {
                    checks.about("rule 5");
                    checks.due("a block of " + tree.getSimpleName(), member.getKind() == Tree.Kind.BLOCK, false);
                }
            }
            checks.about("rule 11");
            checks.due(fields + " fields of " + tree.getSimpleName() + " are too many", fields > MOST_FIELDS, false);
            return super.visitClass(tree, nothing);
        }

        /** Whether it is a constant. */
        private boolean checkField(VariableTree field) {
            Set<Modifier> flags = field.getModifiers().getFlags();
            checks.about("rule 1");
            checks.due(field.getName() + " is private", flags.contains(Modifier.PRIVATE), true);
            if (!flags.contains(Modifier.STATIC)) {
                return false;
            }
            checks.about("rule 5");
            checks.due(field.getName() + " is final", flags.contains(Modifier.FINAL), true);
            checks.due(field.getName() + " is a constant", STATIC_TYPES.contains(field.getType().toString()), true);
            return true;
        }

        @Override
        public Void visitMethod(MethodTree tree, Void nothing) {
            method = tree.getName().toString();
            inConstructor = tree.getReturnType() == null;
            if (!inConstructor) {
                boolean seen = tree.getModifiers().getFlags().contains(Modifier.PUBLIC);
                (seen ? publicNames : otherNames).add(method);
            }
            callsOf.computeIfAbsent(method, name -> new TreeSet<>());
            checks.about("rule 11");
            checks.due(method + " has too many parameters", tree.getParameters().size() > MOST_PARAMETERS, false);
            checks.due(method + " is too long", tree.toString().split("\n").length > MOST_LINES, false);
            super.visitMethod(tree, nothing);
            method = "";
            inConstructor = false;
            return null;
        }

        @Override
        public Void visitMethodInvocation(MethodInvocationTree tree, Void nothing) {
            ExpressionTree called = tree.getMethodSelect();
            String name = called instanceof MemberSelectTree ? ((MemberSelectTree) called).getIdentifier().toString()
                    : called.toString();
            if (!method.isEmpty() && !name.equals("super")) {
                callsOf.get(method).add(name);
            }
            return super.visitMethodInvocation(tree, nothing);
        }

        @Override
        public Void visitImport(ImportTree tree, Void nothing) {
            checks.about("rule 4");
            checks.due("import", tree.getQualifiedIdentifier().toString(), "java.util.NoSuchElementException");
            return null;
        }

        @Override
        public Void visitIdentifier(IdentifierTree tree, Void nothing) {
            String name = tree.getName().toString();
            Tree around = getCurrentPath().getParentPath().getLeaf();
            boolean owner = around instanceof MemberSelectTree;
            if (isTypeName(name) && !TYPES.contains(name) && !EXCEPTIONS.contains(name)
                    && !(owner && LIBRARY.contains(around.toString()))) {
                checks.about("rule 4");
                none("not among what the class uses of the library", owner ? around : name);
            }
            return null;
        }

        @Override
        public Void visitMemberSelect(MemberSelectTree tree, Void nothing) {
            if (isTypeName(tree.getIdentifier().toString())) {
                checks.about("rule 4");
                none("a class by its package or its owner", tree);
            }
            return super.visitMemberSelect(tree, nothing);
        }

        private static boolean isTypeName(String name) {
            boolean lower = false;
            for (int i = 0; i < name.length(); i++) {
                lower |= Character.isLowerCase(name.charAt(i));
            }
            return Character.isUpperCase(name.charAt(0)) && lower;
        }

        @Override
        public Void visitThrow(ThrowTree tree, Void nothing) {
            checks.about("rule 6");
            checks.due("throw in a constructor", inConstructor, false);
            boolean plain = tree.getExpression() instanceof NewClassTree;
            if (plain) {
                NewClassTree made = (NewClassTree) tree.getExpression();
                plain = EXCEPTIONS.contains(made.getIdentifier().toString()) && made.getArguments().size() <= 1;
                for (ExpressionTree argument : made.getArguments()) {
                    plain &= argument instanceof LiteralTree;
                }
            }
            checks.due(tree + " is a new exception with a written text", plain, true);
            return super.visitThrow(tree, nothing);
        }

        @Override
        public Void visitNewClass(NewClassTree tree, Void nothing) {
            boolean thrown = getCurrentPath().getParentPath().getLeaf() instanceof ThrowTree;
            checks.about("rule 12");
            checks.due(tree + " is made once a desk, or thrown", thrown || isMadeOnce(), true);
            return super.visitNewClass(tree, nothing);
        }

        @Override
        public Void visitNewArray(NewArrayTree tree, Void nothing) {
            checks.about("rule 12");
            checks.due(tree + " is made once a desk", isMadeOnce(), true);
            return super.visitNewArray(tree, nothing);
        }

        /** In a constructor, or as a field's first value. */
        private boolean isMadeOnce() {
            if (inConstructor) {
                return true;
            }
            TreePath around = getCurrentPath().getParentPath();
            return around.getLeaf() instanceof VariableTree && around.getParentPath().getLeaf() instanceof ClassTree;
        }

        @Override
        public Void visitBinary(BinaryTree tree, Void nothing) {
            boolean text = tree.getLeftOperand().getKind() == Tree.Kind.STRING_LITERAL
                    || tree.getRightOperand().getKind() == Tree.Kind.STRING_LITERAL;
            checks.about("rule 10");
            checks.due(tree + " joins texts", text, false);
            return super.visitBinary(tree, nothing);
        }

        @Override
        public Void visitTypeCast(TypeCastTree tree, Void nothing) {
            checks.about("rule 6");
            checks.due(tree + " is a cast to float", tree.getType().toString(), "float");
            return super.visitTypeCast(tree, nothing);
        }

        @Override
        public Void visitWhileLoop(WhileLoopTree tree, Void nothing) {
            checks.about("rule 9");
            none("a loop without a counter", tree);
            return null;
        }

        @Override
        public Void visitDoWhileLoop(DoWhileLoopTree tree, Void nothing) {
            checks.about("rule 9");
            none("a loop without a counter", tree);
            return null;
        }

        @Override
        public Void visitForLoop(ForLoopTree tree, Void nothing) {
            checks.about("rule 9");
            boolean counts = tree.getInitializer().size() == 1 && tree.getCondition() instanceof BinaryTree
                    && tree.getUpdate().size() == 1;
            checks.due("a loop has a counter against a bound", counts, true);
            return super.visitForLoop(tree, nothing);
        }

        @Override
        public Void visitTry(TryTree tree, Void nothing) {
            checks.about("rule 6");
            none("try", tree);
            return null;
        }

        @Override
        public Void visitSynchronized(SynchronizedTree tree, Void nothing) {
            checks.about("rule 6");
            none("synchronized", tree);
            return null;
        }

        @Override
        public Void visitAssert(AssertTree tree, Void nothing) {
            checks.about("rule 6");
            none("assert", tree);
            return null;
        }

        @Override
        public Void visitInstanceOf(InstanceOfTree tree, Void nothing) {
            checks.about("rule 6");
            none("instanceof", tree);
            return null;
        }

        @Override
        public Void visitLambdaExpression(LambdaExpressionTree tree, Void nothing) {
            checks.about("rule 2");
            none("lambda", tree);
            return null;
        }

        @Override
        public Void visitMemberReference(MemberReferenceTree tree, Void nothing) {
            checks.about("rule 2");
            none("method reference", tree);
            return null;
        }

        @Override
        public Void visitAnnotation(AnnotationTree tree, Void nothing) {
            checks.about("rule 4");
            none("annotation", tree);
            return null;
        }
    }
}
