import com.sun.source.tree.ArrayAccessTree;
import com.sun.source.tree.AssertTree;
import com.sun.source.tree.BinaryTree;
import com.sun.source.tree.ClassTree;
import com.sun.source.tree.CompilationUnitTree;
import com.sun.source.tree.CompoundAssignmentTree;
import com.sun.source.tree.ConditionalExpressionTree;
import com.sun.source.tree.DoWhileLoopTree;
import com.sun.source.tree.ExpressionTree;
import com.sun.source.tree.ForLoopTree;
import com.sun.source.tree.IdentifierTree;
import com.sun.source.tree.LambdaExpressionTree;
import com.sun.source.tree.LiteralTree;
import com.sun.source.tree.MemberReferenceTree;
import com.sun.source.tree.MethodInvocationTree;
import com.sun.source.tree.MethodTree;
import com.sun.source.tree.NewArrayTree;
import com.sun.source.tree.NewClassTree;
import com.sun.source.tree.SynchronizedTree;
import com.sun.source.tree.ThrowTree;
import com.sun.source.tree.Tree;
import com.sun.source.tree.TryTree;
import com.sun.source.tree.TypeCastTree;
import com.sun.source.tree.VariableTree;
import com.sun.source.tree.WhileLoopTree;
import com.sun.source.util.JavacTask;
import com.sun.source.util.TreePathScanner;
import com.sun.source.util.Trees;
import java.io.IOException;
import java.io.StringWriter;
import java.nio.file.Path;
import java.util.ArrayList;
import java.util.HashSet;
import java.util.LinkedHashMap;
import java.util.List;
import java.util.Map;
import java.util.Set;
import java.util.TreeSet;
import java.util.regex.Pattern;
import javax.lang.model.element.Element;
import javax.lang.model.element.Modifier;
import javax.lang.model.element.VariableElement;
import javax.tools.JavaCompiler;
import javax.tools.StandardJavaFileManager;
import javax.tools.ToolProvider;

/** The rules of LANGUAGE.md, looked at in the compiler's trees of the class: it needs far less than they leave. */
public final class LanguageTest {
    private static final Set<String> LIBRARY = Set.of("java.lang.String.length", "java.lang.String.charAt",
            "java.lang.Math.max", "java.lang.Math.min", "java.lang.Math.floorMod");
    private static final Set<String> FACE = Set.of("write", "wipe", "fault", "lay", "line", "rain", "company", "put",
            "pass", "light", "join", "hand", "undo", "lasts", "stays", "tell", "meet", "can", "give", "see", "forget",
            "from", "rows", "rains", "winter", "keep", "back", "count");
    // Pairs of methods that call one another, and the argument that is their depth.
    private static final Map<String, String> RECURSIVE = Map.of("Keeper.isKept", "hour", "Keeper.isKeptBy", "hour",
            "Teller.isTold", "place", "Teller.isToldBy", "place");

    private static int wrong = 0;

    public static void main(String[] args) throws IOException {
        JavaCompiler compiler = ToolProvider.getSystemJavaCompiler();
        try (StandardJavaFileManager files = compiler.getStandardFileManager(null, null, null)) {
            JavacTask task = (JavacTask) compiler.getTask(new StringWriter(), files, null, List.of("--release", "17"),
                    null, files.getJavaFileObjects(Path.of("src/main/java/EmberTale.java")));
            CompilationUnitTree file = task.parse().iterator().next();
            task.analyze();
            Rules rules = new Rules(Trees.instance(task), file);
            rules.scan(file, null);
            rules.ofTheWhole();
        }
        System.out.println(wrong == 0 ? "the rules hold" : wrong + " faults");
        if (wrong != 0) {
            System.exit(1);
        }
    }

    private static void fault(int rule, String what) {
        wrong++;
        System.out.println("rule " + rule + ": " + what);
    }

    private static final class Rules extends TreePathScanner<Void, Void> {
        private final Trees trees;
        private final CompilationUnitTree file;
        private final List<String> classes = new ArrayList<>();
        private final Map<String, Set<String>> callees = new LinkedHashMap<>();
        private final Set<String> recursive = new TreeSet<>();
        private String inClass = "";
        private String inMethod = "";

        Rules(Trees trees, CompilationUnitTree file) {
            this.trees = trees;
            this.file = file;
        }

        private long lineOf(Tree tree) {
            return file.getLineMap().getLineNumber(trees.getSourcePositions().getStartPosition(file, tree));
        }

        private void never(int rule, Tree tree) {
            fault(rule, tree.getKind() + " in line " + lineOf(tree));
        }

        private Element elementOf(Tree tree) {
            return trees.getElement(trees.getPath(file, tree));
        }

        private String typeOf(Tree tree) {
            return String.valueOf(trees.getTypeMirror(trees.getPath(file, tree)));
        }

        void ofTheWhole() {
            if (!file.getImports().isEmpty() || file.getPackage() != null || file.getTypeDecls().size() != 1) {
                fault(1, "one class without a package or an import");
            }
            if (classes.size() > 12) {
                fault(11, "classes: " + classes);
            }
            int deepest = 0;
            for (String name : FACE) {
                recursive.clear();
                deepest = Math.max(deepest, depth("EmberTale." + name, new HashSet<>()));
            }
            if (deepest < 4 || deepest > 8) {
                fault(11, "calls go " + deepest + " deep");
            }
        }

        /** How many calls that are no recursion stand open at once: of methods that call one another each once. */
        private int depth(String method, Set<String> open) {
            int deepest = 0;
            open.add(method);
            for (String callee : callees.getOrDefault(method, Set.of())) {
                if (!open.contains(callee)) {
                    deepest = Math.max(deepest, depth(callee, open));
                } else if (!RECURSIVE.containsKey(callee) && recursive.add(callee)) {
                    fault(8, method + " and " + callee + " call one another");
                }
            }
            open.remove(method);
            return deepest + 1;
        }

        @Override
        public Void visitClass(ClassTree tree, Void none) {
            String outside = inClass;
            inClass = tree.getSimpleName().toString();
            classes.add(inClass);
            Set<Modifier> flags = tree.getModifiers().getFlags();
            if (!outside.isEmpty() && (flags.contains(Modifier.PUBLIC) || !flags.contains(Modifier.STATIC))) {
                fault(1, "class " + inClass + " is " + flags);
            }
            if (tree.getKind() != Tree.Kind.CLASS || !flags.contains(Modifier.FINAL)) {
                fault(2, inClass + " is " + flags + " " + tree.getKind());
            }
            int fields = 0;
            for (Tree member : tree.getMembers()) {
                if (member instanceof VariableTree) {
                    fields += field((VariableTree) member) ? 1 : 0;
                } else if (member.getKind() == Tree.Kind.BLOCK) {
                    fault(5, "initialiser block in " + inClass);
                }
            }
            if (fields > 20) {
                fault(11, inClass + " has " + fields + " fields");
            }
            super.visitClass(tree, none);
            inClass = outside;
            return null;
        }

        /** False: a constant. */
        private boolean field(VariableTree field) {
            Set<Modifier> flags = field.getModifiers().getFlags();
            if (flags.contains(Modifier.STATIC)) {
                Element constant = elementOf(field);
                boolean known = constant instanceof VariableElement
                        && ((VariableElement) constant).getConstantValue() != null;
                if (!flags.contains(Modifier.FINAL) || !known) {
                    fault(5, "static " + field.getName() + " of " + inClass + " is no constant");
                }
                return false;
            }
            if (!flags.contains(Modifier.PRIVATE)) {
                fault(1, "field " + field.getName() + " of " + inClass + " is not private");
            }
            return true;
        }

        @Override
        public Void visitMethod(MethodTree tree, Void none) {
            String outside = inMethod;
            String name = tree.getName().toString();
            inMethod = inClass + "." + name;
            long lines = file.getLineMap().getLineNumber(trees.getSourcePositions().getEndPosition(file, tree))
                    - lineOf(tree) + 1;
            if (lines > 60 || tree.getParameters().size() > 7) {
                fault(11, inMethod + " has " + lines + " lines, " + tree.getParameters().size() + " parameters");
            }
            Set<Modifier> flags = tree.getModifiers().getFlags();
            boolean ofTheFace = FACE.contains(name) || inMethod.equals("EmberTale.<init>");
            if (flags.contains(Modifier.PUBLIC) != ofTheFace || ofTheFace && !inClass.equals("EmberTale")) {
                fault(1, inMethod + " bears a public name or is public");
            }
            if (flags.contains(Modifier.SYNCHRONIZED)) {
                fault(6, inMethod + " is synchronized");
            }
            if (callees.put(inMethod, new TreeSet<>()) != null) {
                fault(1, inMethod + " is there twice");
            }
            String depth = RECURSIVE.get(inMethod);
            if (depth != null && tree.getParameters().stream().noneMatch(p -> p.getName().contentEquals(depth))) {
                fault(8, inMethod + " carries no depth");
            }
            super.visitMethod(tree, none);
            inMethod = outside;
            return null;
        }

        @Override
        public Void visitMethodInvocation(MethodInvocationTree tree, Void none) {
            Element called = elementOf(tree.getMethodSelect());
            String owner = called.getEnclosingElement().toString();
            String name = called.getSimpleName().toString();
            if (owner.startsWith("EmberTale")) {
                callees.computeIfAbsent(inMethod, m -> new TreeSet<>())
                        .add(called.getEnclosingElement().getSimpleName() + "." + name);
            } else if (!LIBRARY.contains(owner + "." + name) && !name.equals("<init>")) {
                fault(4, owner + "." + name + " in line " + lineOf(tree));
            }
            if (name.equals("floorMod") && !isLookedAt(tree.getArguments().get(1).toString())) {
                fault(7, "a divisor that is not looked at in line " + lineOf(tree));
            }
            return super.visitMethodInvocation(tree, none);
        }

        @Override
        public Void visitVariable(VariableTree tree, Void none) {
            String type = typeOf(tree);
            boolean own = type.startsWith("EmberTale.");
            if (!own && !Set.of("int", "long", "boolean", "char", "int[]", "java.lang.String").contains(type)) {
                fault(3, tree.getName() + " is a " + type);
            }
            return super.visitVariable(tree, none);
        }

        @Override
        public Void visitNewClass(NewClassTree tree, Void none) {
            if (!inMethod.isEmpty() && !inMethod.endsWith("<init>")) {
                fault(12, "a call makes an object in line " + lineOf(tree));
            }
            return super.visitNewClass(tree, none);
        }

        @Override
        public Void visitNewArray(NewArrayTree tree, Void none) {
            String length = tree.getDimensions().size() == 1 ? tree.getDimensions().get(0).toString() : "";
            if (!inMethod.endsWith("<init>") || !length.startsWith("Math.max(")) {
                fault(12, "an array in line " + lineOf(tree) + " not in a constructor, or of whatever length");
            }
            return super.visitNewArray(tree, none);
        }

        @Override
        public Void visitArrayAccess(ArrayAccessTree tree, Void none) {
            if (!Set.of("Row", "Shelf").contains(inClass)) {
                fault(7, "an index outside of Row and Shelf in line " + lineOf(tree));
            }
            return super.visitArrayAccess(tree, none);
        }

        @Override
        public Void visitBinary(BinaryTree tree, Void none) {
            boolean divides = tree.getKind() == Tree.Kind.DIVIDE || tree.getKind() == Tree.Kind.REMAINDER;
            if (divides && !isNumber(tree.getRightOperand()) && !isLookedAt(tree.getRightOperand().toString())) {
                fault(7, "a divisor that is not looked at in line " + lineOf(tree));
            }
            if (tree.getKind() == Tree.Kind.PLUS && typeOf(tree).equals("java.lang.String")) {
                never(10, tree);
            }
            return super.visitBinary(tree, none);
        }

        @Override
        public Void visitCompoundAssignment(CompoundAssignmentTree tree, Void none) {
            if (tree.getKind() == Tree.Kind.DIVIDE_ASSIGNMENT || tree.getKind() == Tree.Kind.REMAINDER_ASSIGNMENT) {
                never(7, tree);
            }
            if (typeOf(tree).equals("java.lang.String")) {
                never(10, tree);
            }
            return super.visitCompoundAssignment(tree, none);
        }

        private boolean isNumber(ExpressionTree divisor) {
            if (divisor instanceof LiteralTree) {
                return !divisor.toString().equals("0");
            }
            Element element = divisor instanceof IdentifierTree ? elementOf(divisor) : null;
            Object value = element instanceof VariableElement ? ((VariableElement) element).getConstantValue() : null;
            return value != null && !value.equals(0);
        }

        /** Its method leaves, its loop ends, or the other answer is taken, if the divisor is below 1. */
        private boolean isLookedAt(String divisor) {
            for (Tree tree : getCurrentPath()) {
                if (tree instanceof ForLoopTree && holds(((ForLoopTree) tree).getCondition(), divisor + " > 0")) {
                    return true;
                }
                if (tree instanceof ConditionalExpressionTree
                        && holds(((ConditionalExpressionTree) tree).getCondition(), divisor + " > 0")) {
                    return true;
                }
                if (tree instanceof MethodTree) {
                    return ((MethodTree) tree).getBody().toString().contains("if (" + divisor + " < 1) {");
                }
            }
            return false;
        }

        private static boolean holds(ExpressionTree condition, String words) {
            String looked = "(.* && )?\\(?" + Pattern.quote(words) + "\\)?( && .*)?";
            return condition != null && condition.toString().matches(looked);
        }

        @Override
        public Void visitForLoop(ForLoopTree tree, Void none) {
            String condition = String.valueOf(tree.getCondition());
            if (tree.getInitializer().size() != 1 || tree.getUpdate().size() != 1
                    || !(tree.getInitializer().get(0) instanceof VariableTree)) {
                never(9, tree);
                return super.visitForLoop(tree, none);
            }
            String counter = ((VariableTree) tree.getInitializer().get(0)).getName().toString();
            boolean bounded = condition.startsWith(counter + " < ") || condition.startsWith(counter + " <= ");
            if (!bounded || condition.contains("||") || !tree.getUpdate().get(0).toString().equals(counter + "++;")) {
                never(9, tree);
            }
            return super.visitForLoop(tree, none);
        }

        @Override
        public Void visitWhileLoop(WhileLoopTree tree, Void none) {
            never(9, tree);
            return super.visitWhileLoop(tree, none);
        }

        @Override
        public Void visitDoWhileLoop(DoWhileLoopTree tree, Void none) {
            never(9, tree);
            return super.visitDoWhileLoop(tree, none);
        }

        @Override
        public Void visitTypeCast(TypeCastTree tree, Void none) {
            if (!tree.getType().toString().equals("int")) {
                never(6, tree);
            }
            return super.visitTypeCast(tree, none);
        }

        @Override
        public Void visitThrow(ThrowTree tree, Void none) {
            never(6, tree);
            return super.visitThrow(tree, none);
        }

        @Override
        public Void visitTry(TryTree tree, Void none) {
            never(6, tree);
            return super.visitTry(tree, none);
        }

        @Override
        public Void visitAssert(AssertTree tree, Void none) {
            never(6, tree);
            return super.visitAssert(tree, none);
        }

        @Override
        public Void visitSynchronized(SynchronizedTree tree, Void none) {
            never(6, tree);
            return super.visitSynchronized(tree, none);
        }

        @Override
        public Void visitLambdaExpression(LambdaExpressionTree tree, Void none) {
            never(2, tree);
            return super.visitLambdaExpression(tree, none);
        }

        @Override
        public Void visitMemberReference(MemberReferenceTree tree, Void none) {
            never(2, tree);
            return super.visitMemberReference(tree, none);
        }
    }
}
