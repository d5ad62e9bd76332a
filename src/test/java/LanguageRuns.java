import com.sun.source.tree.AssertTree;
import com.sun.source.tree.BinaryTree;
import com.sun.source.tree.BlockTree;
import com.sun.source.tree.CatchTree;
import com.sun.source.tree.ClassTree;
import com.sun.source.tree.CompilationUnitTree;
import com.sun.source.tree.CompoundAssignmentTree;
import com.sun.source.tree.DoWhileLoopTree;
import com.sun.source.tree.ForLoopTree;
import com.sun.source.tree.ImportTree;
import com.sun.source.tree.LambdaExpressionTree;
import com.sun.source.tree.LiteralTree;
import com.sun.source.tree.MemberReferenceTree;
import com.sun.source.tree.MethodInvocationTree;
import com.sun.source.tree.MethodTree;
import com.sun.source.tree.NewArrayTree;
import com.sun.source.tree.NewClassTree;
import com.sun.source.tree.SynchronizedTree;
import com.sun.source.tree.ThrowTree;
import com.sun.source.tree.Tree;
import com.sun.source.tree.TryTree;
import com.sun.source.tree.TypeCastTree;
import com.sun.source.tree.VariableTree;
import com.sun.source.tree.WhileLoopTree;
import com.sun.source.util.JavacTask;
import com.sun.source.util.TreePath;
import com.sun.source.util.TreePathScanner;
import com.sun.source.util.Trees;
import java.nio.file.Files;
import java.nio.file.Path;
import java.util.ArrayList;
import java.util.HashSet;
import java.util.List;
import java.util.Map;
import java.util.Set;
import java.util.TreeMap;
import java.util.TreeSet;
import javax.lang.model.element.Element;
import javax.lang.model.element.ElementKind;
import javax.lang.model.element.ExecutableElement;
import javax.lang.model.element.Modifier;
import javax.lang.model.element.TypeElement;
import javax.lang.model.element.VariableElement;
import javax.lang.model.type.TypeMirror;
import javax.tools.JavaCompiler;
import javax.tools.StandardJavaFileManager;
import javax.tools.ToolProvider;

/**
 * src/main/java/PairKeeper.java keeps to ../shared/LANGUAGE.md, as far as its lines show it: the compiler
 * reads it, and each part of the tree is looked at by the rule of its number. (What can be seen from
 * outside, rule 1, is tested by FaceRuns.) First the looks themselves are tested on a class that breaks
 * each rule.
 */
public final class LanguageRuns {
    private static final Path SOURCE = Path.of("src/main/java/PairKeeper.java");

    private static final Set<String> TYPES = Set.of("int", "long", "short", "byte", "char", "boolean", "double", "float", "void",
        "java.lang.String", "java.lang.StringBuilder", "java.lang.Integer", "java.util.ArrayList", "java.util.List",
        "java.util.NoSuchElementException", "java.lang.IllegalArgumentException");
    private static final Set<String> CALLS = Set.of(
        "String.length", "String.charAt", "String.isEmpty", "String.equals", "String.indexOf", "String.substring", "String.toCharArray",
        "StringBuilder.append", "StringBuilder.charAt", "StringBuilder.setCharAt", "StringBuilder.setLength", "StringBuilder.deleteCharAt",
        "StringBuilder.reverse", "StringBuilder.length", "StringBuilder.toString",
        "Integer.compare", "Integer.max", "Integer.min", "Integer.bitCount", "Long.compare", "Long.max", "Long.min", "Long.bitCount",
        "Math.max", "Math.min", "Math.abs", "Math.floorDiv", "Math.floorMod",
        "System.arraycopy", "Arrays.copyOf", "Arrays.copyOfRange", "Arrays.fill");
    private static final Set<String> THROWN = Set.of("IllegalStateException", "IllegalArgumentException", "IndexOutOfBoundsException",
        "ArithmeticException", "UnsupportedOperationException", "NoSuchElementException", "RuntimeException");

    private static int wrong = 0;

    public static void main(String[] args) throws Exception {
        looksSeeWhatIsBroken();
        Look look = look(SOURCE);
        for (String found : look.found) {
            wrong++;
            System.out.println(found);
        }
        System.out.println(look.methods + " methods, " + look.calls + " calls of methods, " + look.deepest + " deep, longest "
            + look.longest + " lines, " + look.classes + " classes, " + wrong + " wrong");
        if (wrong != 0 || look.methods < 41) {
            System.exit(1);
        }
    }

    private static Look look(Path source) throws Exception {
        JavaCompiler compiler = ToolProvider.getSystemJavaCompiler();
        try (StandardJavaFileManager files = compiler.getStandardFileManager(null, null, null)) {
            JavacTask task = (JavacTask) compiler.getTask(null, files, found -> { }, List.of("-proc:none"), null,
                files.getJavaFileObjects(source));
            CompilationUnitTree unit = task.parse().iterator().next();
            task.analyze();
            Look look = new Look(Trees.instance(task), unit);
            look.scan(unit, null);
            look.finish();
            return look;
        }
    }

    /** A class that breaks rules: each of these must be found in it. */
    private static void looksSeeWhatIsBroken() throws Exception {
        String source = """
            import java.util.Random;
            import java.util.function.IntSupplier;
            public final class Broken {
                private static int state = 0;
                static { state = 1; }
                private Object thing;
                private int[][][] cube;
                private String[] names;
                Broken() { if (state > 0) { throw new IllegalArgumentException("no"); } }
                private int random() { return new Random().nextInt(); }
                private long clock() { return System.nanoTime(); }
                private int exact() { return Math.addExact(1, 2); }
                private IntSupplier lambda() { return () -> 1; }
                private String join(int k) { return "a" + k; }
                private int seven(int a, int b, int c, int d, int e, int f, int g, int h) { return a; }
                private int again(int k) { return k > 0 ? again(k - 1) : 0; }
                private void forever() { while (true) { state++; } }
                private void unbound() { for (;;) { state++; } }
                private void caught() { try { again(1); } catch (ArithmeticException e) { state = 2; } finally { state = 3; } }
                private void machine() { try { again(1); } catch (NullPointerException e) { state = 2; } }
                private void error() { throw new Error("no"); }
                private void sum(int k) { throw new IllegalStateException("no " + k); }
                private void locked() { synchronized (this) { assert state > 0; } }
                private int[] row() { return new int[3]; }
                private int one() { return two(); } private int two() { return three(); } private int three() { return four(); }
                private int four() { return five(); } private int five() { return six(); } private int six() { return nine(); }
                private int nine() { return ten(); } private int ten() { return eleven(); } private int eleven() { return 1; }
                private String sign() { return "\\u00e9"; }
                private static class Inner { public boolean equals(Object o) { return true; } public int hashCode() { return 1; } }
            """ + "    private void lines() {\n" + "        state++;\n".repeat(70) + "    }\n}\n";
        Path folder = Files.createTempDirectory("broken");
        Path file = folder.resolve("Broken.java");
        Files.writeString(file, source);
        String found = String.join("\n", look(file).found);
        Files.delete(file);
        Files.delete(folder);
        for (String due : new String[] {"rule 2: a lambda", "rule 3: java.lang.Object", "rule 3: java.util.Random", "rule 3: int[][][]",
            "rule 4: System.nanoTime", "rule 4: Math.addExact", "rule 4: a sign", "rule 5: state", "rule 5: a static block",
            "rule 6: throws Error", "rule 6: a throw without a written text", "rule 6: a throw in a constructor", "rule 6: a finally",
            "rule 6: catches NullPointerException", "rule 6: synchronized", "rule 6: assert", "rule 6: method equals", "rule 8: again",
            "rule 9: a loop without an end", "rule 10: + joins texts", "rule 11: seven has 8 parameters", "rule 11: lines has",
            "rule 11: calls are", "rule 12: an array is made", "rule 4: imports java.util.Random"}) {
            if (!found.contains(due)) {
                wrong++;
                System.out.println("not seen in the broken class: " + due);
            }
        }
        if (wrong != 0) {
            System.out.println("seen there:\n" + found);
        }
    }

    /** Looks at each part of the tree. */
    private static final class Look extends TreePathScanner<Void, Void> {
        final Trees trees;
        final CompilationUnitTree unit;
        final List<String> found = new ArrayList<>();
        /** Who calls whom. */
        final Map<String, Set<String>> callees = new TreeMap<>();
        String method = "";
        boolean inConstructor = false;
        int methods = 0;
        int calls = 0;
        int classes = 0;
        int longest = 0;
        int deepest = 0;

        Look(Trees trees, CompilationUnitTree unit) {
            this.trees = trees;
            this.unit = unit;
        }

        void say(Tree at, int rule, String what) {
            found.add("line " + line(trees.getSourcePositions().getStartPosition(unit, at)) + " rule " + rule + ": " + what);
        }

        long line(long position) {
            return unit.getLineMap().getLineNumber(position);
        }

        @Override
        public Void visitImport(ImportTree tree, Void none) {
            String name = tree.getQualifiedIdentifier().toString();
            if (!Set.of("java.util.NoSuchElementException", "java.util.ArrayList", "java.util.List", "java.util.Arrays", "java.util.Iterator").contains(name)) {
                say(tree, 4, "imports " + name);
            }
            return super.visitImport(tree, none);
        }

        @Override
        public Void visitClass(ClassTree tree, Void none) {
            classes++;
            int fields = 0;
            for (Tree member : tree.getMembers()) {
                if (member instanceof VariableTree variable && !variable.getModifiers().getFlags().contains(Modifier.STATIC)) {
                    fields++;
                }
                if (member instanceof BlockTree block && block.isStatic()) {
                    say(member, 5, "a static block");
                }
            }
            if (fields > 20) {
                say(tree, 11, tree.getSimpleName() + " has " + fields + " fields");
            }
            return super.visitClass(tree, none);
        }

        @Override
        public Void visitVariable(VariableTree tree, Void none) {
            Element element = trees.getElement(getCurrentPath());
            if (element != null) {
                type(tree, element.asType());
                boolean field = element.getKind() == ElementKind.FIELD;
                if (field && element.getModifiers().contains(Modifier.STATIC) && !element.getModifiers().contains(Modifier.FINAL)) {
                    say(tree, 5, tree.getName() + " is static and not final");
                }
                if (field && element.getModifiers().contains(Modifier.STATIC) && tree.getInitializer() instanceof NewClassTree) {
                    say(tree, 5, tree.getName() + " is a static object");
                }
            }
            return super.visitVariable(tree, none);
        }

        void type(Tree at, TypeMirror type) {
            String name = type.toString();
            String plain = name.replace("[]", "");
            boolean own = plain.equals("PairKeeper") || plain.startsWith("PairKeeper.");
            boolean number = Set.of("int", "long", "short", "byte", "char", "boolean", "double", "float").contains(plain);
            int dimensions = (name.length() - plain.length()) / 2;
            if (!own && !TYPES.contains(plain.replaceAll("<.*>", "")) || dimensions > (number ? 2 : own ? 1 : 0)) {
                say(at, 3, name);
            }
        }

        @Override
        public Void visitMethod(MethodTree tree, Void none) {
            Element element = trees.getElement(getCurrentPath());
            String ahead = method;
            inConstructor = element.getKind() == ElementKind.CONSTRUCTOR;
            method = nameOf(element);
            callees.putIfAbsent(method, new TreeSet<>());
            if (!inConstructor) {
                methods++;
                type(tree, ((ExecutableElement) element).getReturnType());
            }
            if (tree.getParameters().size() > 7) {
                say(tree, 11, tree.getName() + " has " + tree.getParameters().size() + " parameters");
            }
            long lines = line(trees.getSourcePositions().getEndPosition(unit, tree)) - line(trees.getSourcePositions().getStartPosition(unit, tree)) + 1;
            longest = Math.max(longest, (int) lines);
            if (lines > 60) {
                say(tree, 11, tree.getName() + " has " + lines + " lines");
            }
            if (Set.of("equals", "hashCode", "toString").contains(tree.getName().toString())) {
                say(tree, 6, "method " + tree.getName());
            }
            super.visitMethod(tree, none);
            method = ahead;
            inConstructor = false;
            return null;
        }

        String nameOf(Element element) {
            return ((TypeElement) element.getEnclosingElement()).getSimpleName() + "." + element;
        }

        @Override
        public Void visitMethodInvocation(MethodInvocationTree tree, Void none) {
            Element element = trees.getElement(getCurrentPath());
            if (element != null && element.getEnclosingElement() instanceof TypeElement owner) {
                calls++;
                String at = owner.getQualifiedName().toString();
                boolean own = at.equals("PairKeeper") || at.startsWith("PairKeeper.") || at.equals("Broken") || at.startsWith("Broken.");
                if (own) {
                    callees.computeIfAbsent(method, key -> new TreeSet<>()).add(nameOf(element));
                } else if (element.getKind() != ElementKind.CONSTRUCTOR && !CALLS.contains(owner.getSimpleName() + "." + element.getSimpleName())) {
                    say(tree, 4, owner.getSimpleName() + "." + element.getSimpleName());
                }
            }
            return super.visitMethodInvocation(tree, none);
        }

        @Override
        public Void visitNewClass(NewClassTree tree, Void none) {
            boolean thrown = getCurrentPath().getParentPath().getLeaf() instanceof ThrowTree;
            TypeMirror type = trees.getTypeMirror(getCurrentPath());
            if (!thrown && type != null) {
                type(tree, type);
                made(tree, "an object is made");
            }
            if (tree.getClassBody() != null) {
                say(tree, 2, "an anonymous class");
            }
            return super.visitNewClass(tree, none);
        }

        @Override
        public Void visitNewArray(NewArrayTree tree, Void none) {
            made(tree, "an array is made");
            return super.visitNewArray(tree, none);
        }

        /** README: after a constructor a call makes nothing but the exception that it throws. */
        void made(Tree tree, String what) {
            if (!method.isEmpty() && !inConstructor) {
                say(tree, 12, what + " in " + method);
            }
        }

        @Override
        public Void visitThrow(ThrowTree tree, Void none) {
            if (inConstructor) {
                say(tree, 6, "a throw in a constructor");
            }
            if (tree.getExpression() instanceof NewClassTree made) {
                String name = made.getIdentifier().toString();
                if (!THROWN.contains(name)) {
                    say(tree, 6, "throws " + name);
                }
                boolean written = made.getArguments().isEmpty()
                    || made.getArguments().size() == 1 && made.getArguments().get(0).getKind() == Tree.Kind.STRING_LITERAL;
                if (!written) {
                    say(tree, 6, "a throw without a written text");
                }
            } else {
                say(tree, 6, "a throw of what is not new");
            }
            return super.visitThrow(tree, none);
        }

        @Override
        public Void visitTry(TryTree tree, Void none) {
            if (tree.getFinallyBlock() != null) {
                say(tree, 6, "a finally");
            }
            if (!tree.getResources().isEmpty()) {
                say(tree, 6, "a try with resources");
            }
            return super.visitTry(tree, none);
        }

        @Override
        public Void visitCatch(CatchTree tree, Void none) {
            String name = tree.getParameter().getType().toString();
            if (!Set.of("IllegalStateException", "IllegalArgumentException", "NoSuchElementException", "UnsupportedOperationException").contains(name)) {
                say(tree, 6, "catches " + name);
            }
            return super.visitCatch(tree, none);
        }

        @Override
        public Void visitSynchronized(SynchronizedTree tree, Void none) {
            say(tree, 6, "synchronized");
            return super.visitSynchronized(tree, none);
        }

        @Override
        public Void visitAssert(AssertTree tree, Void none) {
            say(tree, 6, "assert");
            return super.visitAssert(tree, none);
        }

        @Override
        public Void visitLambdaExpression(LambdaExpressionTree tree, Void none) {
            say(tree, 2, "a lambda");
            return super.visitLambdaExpression(tree, none);
        }

        @Override
        public Void visitMemberReference(MemberReferenceTree tree, Void none) {
            say(tree, 2, "a method reference");
            return super.visitMemberReference(tree, none);
        }

        @Override
        public Void visitWhileLoop(WhileLoopTree tree, Void none) {
            if (tree.getCondition().toString().equals("(true)")) {
                say(tree, 9, "a loop without an end");
            }
            return super.visitWhileLoop(tree, none);
        }

        @Override
        public Void visitDoWhileLoop(DoWhileLoopTree tree, Void none) {
            if (tree.getCondition().toString().equals("(true)")) {
                say(tree, 9, "a loop without an end");
            }
            return super.visitDoWhileLoop(tree, none);
        }

        @Override
        public Void visitForLoop(ForLoopTree tree, Void none) {
            if (tree.getCondition() == null || tree.getUpdate().isEmpty()) {
                say(tree, 9, "a loop without an end");
            }
            return super.visitForLoop(tree, none);
        }

        @Override
        public Void visitBinary(BinaryTree tree, Void none) {
            TypeMirror type = trees.getTypeMirror(getCurrentPath());
            if (tree.getKind() == Tree.Kind.PLUS && type != null && type.toString().equals("java.lang.String")) {
                say(tree, 10, "+ joins texts");
            }
            boolean divides = tree.getKind() == Tree.Kind.DIVIDE || tree.getKind() == Tree.Kind.REMAINDER;
            if (divides && !constant(new TreePath(getCurrentPath(), tree.getRightOperand()))) {
                say(tree, 7, "a divisor that is no constant");
            }
            return super.visitBinary(tree, none);
        }

        @Override
        public Void visitCompoundAssignment(CompoundAssignmentTree tree, Void none) {
            boolean divides = tree.getKind() == Tree.Kind.DIVIDE_ASSIGNMENT || tree.getKind() == Tree.Kind.REMAINDER_ASSIGNMENT;
            if (divides && !constant(new TreePath(getCurrentPath(), tree.getExpression()))) {
                say(tree, 7, "a divisor that is no constant");
            }
            TypeMirror type = trees.getTypeMirror(getCurrentPath());
            if (type != null && type.toString().equals("java.lang.String")) {
                say(tree, 10, "+ joins texts");
            }
            return super.visitCompoundAssignment(tree, none);
        }

        boolean constant(TreePath path) {
            if (path.getLeaf() instanceof LiteralTree literal) {
                return !literal.getValue().toString().equals("0");
            }
            return trees.getElement(path) instanceof VariableElement variable
                && variable.getConstantValue() instanceof Number number && number.longValue() != 0;
        }

        @Override
        public Void visitTypeCast(TypeCastTree tree, Void none) {
            TypeMirror type = trees.getTypeMirror(getCurrentPath());
            if (type != null && !type.getKind().isPrimitive()) {
                say(tree, 7, "a cast to " + type);
            }
            return super.visitTypeCast(tree, none);
        }

        @Override
        public Void visitLiteral(LiteralTree tree, Void none) {
            if (tree.getValue() instanceof String text && text.chars().anyMatch(c -> c < 1 || c > 127)) {
                say(tree, 4, "a sign beyond 1 to 127");
            }
            return super.visitLiteral(tree, none);
        }

        /** No method calls itself, by others either; calls go eight deep at most. */
        void finish() {
            if (classes > 12) {
                say(unit, 11, classes + " classes");
            }
            for (String name : callees.keySet()) {
                deepest = Math.max(deepest, depth(name, new HashSet<>()));
            }
            if (deepest > 8) {
                say(unit, 11, "calls are " + deepest + " deep");
            }
        }

        int depth(String name, Set<String> open) {
            if (!open.add(name)) {
                found.add("rule 8: " + name.substring(name.indexOf('.') + 1) + " calls itself");
                return 0;
            }
            int below = 0;
            for (String next : callees.getOrDefault(name, Set.of())) {
                below = Math.max(below, depth(next, open));
            }
            open.remove(name);
            return below + 1;
        }
    }
}
