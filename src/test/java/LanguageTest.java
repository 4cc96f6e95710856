import com.sun.source.tree.ArrayTypeTree;
import com.sun.source.tree.AssertTree;
import com.sun.source.tree.BinaryTree;
import com.sun.source.tree.ClassTree;
import com.sun.source.tree.CompilationUnitTree;
import com.sun.source.tree.ExpressionTree;
import com.sun.source.tree.IdentifierTree;
import com.sun.source.tree.LambdaExpressionTree;
import com.sun.source.tree.LiteralTree;
import com.sun.source.tree.MemberReferenceTree;
import com.sun.source.tree.MemberSelectTree;
import com.sun.source.tree.MethodInvocationTree;
import com.sun.source.tree.MethodTree;
import com.sun.source.tree.NewClassTree;
import com.sun.source.tree.SynchronizedTree;
import com.sun.source.tree.ThrowTree;
import com.sun.source.tree.Tree;
import com.sun.source.tree.TryTree;
import com.sun.source.tree.VariableTree;
import com.sun.source.util.JavacTask;
import com.sun.source.util.TreeScanner;
import com.sun.source.util.Trees;
import java.io.IOException;
import java.nio.charset.StandardCharsets;
import java.nio.file.Files;
import java.nio.file.Path;
import java.util.HashMap;
import java.util.List;
import java.util.Map;
import java.util.Set;
import java.util.TreeSet;
import javax.lang.model.element.Modifier;
import javax.tools.JavaCompiler;
import javax.tools.StandardJavaFileManager;
import javax.tools.ToolProvider;

/** The rules of LANGUAGE.md that can be read off the program's text; FaceTest has rule 1. */
public final class LanguageTest {
    private static final Path PROGRAM = Path.of("src/main/java/TurnTree.java");
    private static final Set<String> OWN = Set.of("Node", "Line", "Packet", "TurnTree");
    private static final Set<String> TYPES = Set.of("int", "long", "boolean", "Node", "Packet", "Line");
    private static final Set<String> THROWN = Set.of("IllegalStateException", "IllegalArgumentException",
            "IndexOutOfBoundsException", "ArithmeticException", "UnsupportedOperationException",
            "NoSuchElementException", "RuntimeException");
    private static final Set<String> LIBRARY = Set.of("Math.max");

    public static void main(String[] args) throws IOException {
        String text = Files.readString(PROGRAM, StandardCharsets.ISO_8859_1);
        Check.due("texts hold the characters of 7 bits alone", text.chars().allMatch(c -> c < 128), true);
        JavaCompiler compiler = ToolProvider.getSystemJavaCompiler();
        try (StandardJavaFileManager files = compiler.getStandardFileManager(null, null, null)) {
            JavacTask task = (JavacTask) compiler.getTask(null, files, null, null, null,
                    files.getJavaFileObjects(PROGRAM));
            CompilationUnitTree unit = task.parse().iterator().next();
            Rules rules = new Rules(unit, Trees.instance(task));
            rules.scan(unit, null);
            rules.dueAll(unit);
        }
        Check.end();
    }

    /** Goes through the program, and gathers who calls whom on the way. */
    private static final class Rules extends TreeScanner<Void, Void> {
        private final CompilationUnitTree unit;
        private final Trees trees;
        private final Map<String, Set<String>> calls = new HashMap<>();
        private String method = "";
        private int classes = 0;

        Rules(CompilationUnitTree unit, Trees trees) {
            this.unit = unit;
            this.trees = trees;
        }

        void dueAll(CompilationUnitTree unit) {
            Check.due("4: imports", unit.getImports().size(), 0);
            Check.due("one class in the file", unit.getTypeDecls().size(), 1);
            Check.due("no package", unit.getPackageName() == null, true);
            Check.due("11: at most twelve classes", classes <= 12, true);
            for (String name : calls.keySet()) {
                Check.due("11: calls from " + name + " go at most eight deep", depth(name, 1) <= 8, true);
            }
        }

        /** How many calls stand open at once below a method; a method that calls itself has no end. */
        private int depth(String name, int above) {
            int deepest = above;
            for (String called : calls.getOrDefault(name, Set.of())) {
                deepest = Math.max(deepest, above > 20 ? above : depth(called, above + 1));
            }
            return deepest;
        }

        private long line(long position) {
            return unit.getLineMap().getLineNumber(position);
        }

        private void never(String rule) {
            Check.due(rule + " in " + method, true, false);
        }

        @Override
        public Void visitClass(ClassTree tree, Void none) {
            classes++;
            int fields = 0;
            for (Tree member : tree.getMembers()) {
                Check.due("5: an initialiser block", member.getKind() == Tree.Kind.BLOCK, false);
                if (member instanceof VariableTree field) {
                    boolean shared = field.getModifiers().getFlags().contains(Modifier.STATIC);
                    fields += shared ? 0 : 1;
                    boolean constant = field.getModifiers().getFlags().contains(Modifier.FINAL)
                            && field.getType().toString().equals("int");
                    Check.due("5: " + field.getName() + " is a constant", !shared || constant, true);
                }
            }
            Check.due("11: fields of " + tree.getSimpleName(), fields <= 20, true);
            return super.visitClass(tree, none);
        }

        @Override
        public Void visitMethod(MethodTree tree, Void none) {
            method = tree.getName().toString();
            // Calls are told by the name alone, so two methods of a name would be one.
            Check.due("a second " + method, calls.containsKey(method) && !isConstructor(), false);
            calls.putIfAbsent(method, new TreeSet<>());
            Check.due("11: parameters of " + method, tree.getParameters().size() <= 7, true);
            long first = line(trees.getSourcePositions().getStartPosition(unit, tree));
            long last = line(trees.getSourcePositions().getEndPosition(unit, tree));
            Check.due("11: lines of " + method, last - first < 60, true);
            Check.due("6: " + method + " of Object",
                    Set.of("equals", "hashCode", "toString").contains(method), false);
            return super.visitMethod(tree, none);
        }

        private boolean isConstructor() {
            return method.equals("<init>");
        }

        @Override
        public Void visitMethodInvocation(MethodInvocationTree tree, Void none) {
            ExpressionTree called = tree.getMethodSelect();
            if (called instanceof IdentifierTree own) {
                calls.get(method).add(own.getName().toString());
            } else if (called instanceof MemberSelectTree select) {
                boolean library = Character.isUpperCase(select.toString().charAt(0));
                Check.due("4: " + select, !library || LIBRARY.contains(select.toString()), true);
                if (!library) {
                    calls.get(method).add(select.getIdentifier().toString());
                }
            }
            return super.visitMethodInvocation(tree, none);
        }

        @Override
        public Void visitThrow(ThrowTree tree, Void none) {
            Check.due("6: a throw in a constructor", isConstructor(), false);
            boolean made = tree.getExpression() instanceof NewClassTree;
            Check.due("6: throw new E() in " + method, made, true);
            if (tree.getExpression() instanceof NewClassTree e) {
                Check.due("6: " + e.getIdentifier(), THROWN.contains(e.getIdentifier().toString()), true);
                List<? extends ExpressionTree> with = e.getArguments();
                Check.due("6: what is thrown with", with.isEmpty() || with.get(0) instanceof LiteralTree, true);
            }
            return super.visitThrow(tree, none);
        }

        @Override
        public Void visitNewClass(NewClassTree tree, Void none) {
            String name = tree.getIdentifier().toString();
            Check.due("4: new " + name, OWN.contains(name) || THROWN.contains(name), true);
            Check.due("2: a class without a name", tree.getClassBody() == null, true);
            return super.visitNewClass(tree, none);
        }

        @Override
        public Void visitVariable(VariableTree tree, Void none) {
            String type = tree.getType() == null ? "var" : tree.getType().toString().replace("[]", "");
            Check.due("3: the type " + type + " of " + tree.getName(), TYPES.contains(type), true);
            return super.visitVariable(tree, none);
        }

        @Override
        public Void visitArrayType(ArrayTypeTree tree, Void none) {
            Check.due("3: an array of arrays", tree.getType() instanceof ArrayTypeTree, false);
            return super.visitArrayType(tree, none);
        }

        @Override
        public Void visitBinary(BinaryTree tree, Void none) {
            boolean divides = tree.getKind() == Tree.Kind.DIVIDE || tree.getKind() == Tree.Kind.REMAINDER;
            // This one method looks at its divisor; a second one has to be looked at before it is named here.
            Check.due("7: a division in " + method, divides && !method.equals("charge"), false);
            return super.visitBinary(tree, none);
        }

        @Override
        public Void visitLambdaExpression(LambdaExpressionTree tree, Void none) {
            never("2: a lambda");
            return null;
        }

        @Override
        public Void visitMemberReference(MemberReferenceTree tree, Void none) {
            never("2: a method reference");
            return null;
        }

        @Override
        public Void visitTry(TryTree tree, Void none) {
            never("6: a try, which nothing here needs,");
            return null;
        }

        @Override
        public Void visitSynchronized(SynchronizedTree tree, Void none) {
            never("6: synchronized");
            return null;
        }

        @Override
        public Void visitAssert(AssertTree tree, Void none) {
            never("6: assert");
            return null;
        }
    }
}
