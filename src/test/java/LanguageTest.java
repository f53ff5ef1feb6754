import com.sun.source.tree.AssertTree;
import com.sun.source.tree.BinaryTree;
import com.sun.source.tree.ClassTree;
import com.sun.source.tree.CompilationUnitTree;
import com.sun.source.tree.ImportTree;
import com.sun.source.tree.LambdaExpressionTree;
import com.sun.source.tree.LiteralTree;
import com.sun.source.tree.MemberReferenceTree;
import com.sun.source.tree.MethodInvocationTree;
import com.sun.source.tree.MethodTree;
import com.sun.source.tree.NewClassTree;
import com.sun.source.tree.SynchronizedTree;
import com.sun.source.tree.ThrowTree;
import com.sun.source.tree.Tree;
import com.sun.source.tree.TryTree;
import com.sun.source.tree.VariableTree;
import com.sun.source.util.JavacTask;
import com.sun.source.util.TreePathScanner;
import com.sun.source.util.Trees;
import java.io.File;
import java.lang.reflect.Constructor;
import java.lang.reflect.Field;
import java.lang.reflect.Method;
import java.lang.reflect.Modifier;
import java.util.ArrayList;
import java.util.HashSet;
import java.util.LinkedHashMap;
import java.util.LinkedHashSet;
import java.util.List;
import java.util.Map;
import java.util.Set;
import java.util.TreeSet;
import javax.lang.model.element.Element;
import javax.lang.model.element.ElementKind;
import javax.lang.model.element.TypeElement;
import javax.tools.JavaCompiler;
import javax.tools.StandardJavaFileManager;
import javax.tools.ToolProvider;

/** Looks at src/main/java/TwoMouths.java by the rules of LANGUAGE.md that a program can look at. */
public final class LanguageTest {
    private static final String SOURCE = "src/main/java/TwoMouths.java";
    private static final Set<String> FACE = Set.of("feed", "end", "town", "law", "talk", "talks", "person",
            "first", "silent", "believes", "has", "known", "row", "tells", "spread", "last", "fewest", "silence",
            "crier", "letter", "entry", "book", "rowAt", "mouths", "turn", "byBook", "lies", "doubts", "apart",
            "weight", "reach", "way", "moved", "two", "seed", "tried", "count", "image", "back");
    private static final Set<String> LIBRARY = Set.of("java.lang.String.length", "java.lang.String.charAt",
            "java.util.Arrays.fill", "java.lang.System.arraycopy", "java.lang.Math.max", "java.lang.Math.min",
            "java.lang.Integer.bitCount", "java.lang.Integer.numberOfTrailingZeros", "java.lang.Long.bitCount",
            "java.lang.Long.numberOfTrailingZeros");
    private static final Set<String> STATIC_TYPES = Set.of("int", "long", "boolean", "char", "String", "int[]",
            "long[]", "char[]", "byte[]");

    private static final List<String> WRONG = new ArrayList<>();

    public static void main(String[] args) throws Exception {
        face();
        JavaCompiler compiler = ToolProvider.getSystemJavaCompiler();
        StandardJavaFileManager files = compiler.getStandardFileManager(null, null, null);
        JavacTask task = (JavacTask) compiler.getTask(null, files, null, List.of("-proc:none"), null,
                files.getJavaFileObjects(new File(SOURCE)));
        CompilationUnitTree unit = task.parse().iterator().next();
        task.analyze();
        Look look = new Look(Trees.instance(task), unit);
        look.scan(unit, null);
        look.finish();
        WRONG.forEach(System.out::println);
        System.out.println(look.methods + " methods in " + look.classes + " classes looked at, calls go "
                + look.deepest + " deep, " + WRONG.size() + " faults");
        if (!WRONG.isEmpty() || look.methods < FACE.size()) {
            System.exit(1);
        }
    }

    private static void want(boolean right, String fault) {
        if (!right) {
            WRONG.add(fault);
        }
    }

    /** Rule 1, as the machine sees it. */
    private static void face() {
        Class<?> c = TwoMouths.class;
        want(Modifier.isFinal(c.getModifiers()) && Modifier.isPublic(c.getModifiers()), "the class");
        Set<String> found = new TreeSet<>();
        for (Method m : c.getDeclaredMethods()) {
            boolean open = Modifier.isPublic(m.getModifiers());
            want(open || Modifier.isPrivate(m.getModifiers()), "method neither public nor private: " + m);
            want(open == FACE.contains(m.getName()), "method not of the face: " + m);
            if (open) {
                want(m.getReturnType() == int.class && !Modifier.isStatic(m.getModifiers()), "face: " + m);
                want(found.add(m.getName()), "twice: " + m);
            }
        }
        want(found.equals(new TreeSet<>(FACE)), "the face has " + found);
        for (Field f : c.getDeclaredFields()) {
            want(Modifier.isPrivate(f.getModifiers()) || f.getName().equals("NONE"), "field: " + f);
        }
        Constructor<?>[] all = c.getDeclaredConstructors();
        want(all.length == 1 && Modifier.isPublic(all[0].getModifiers()), "constructors");
    }

    private static final class Look extends TreePathScanner<Void, Void> {
        private final Trees trees;
        private final CompilationUnitTree unit;
        private final Map<Element, Set<Element>> calls = new LinkedHashMap<>();
        private Element within;
        private int methods;
        private int classes;
        private int deepest;

        Look(Trees trees, CompilationUnitTree unit) {
            this.trees = trees;
            this.unit = unit;
        }

        private String at(Tree tree) {
            long place = trees.getSourcePositions().getStartPosition(unit, tree);
            return "line " + unit.getLineMap().getLineNumber(place) + ": ";
        }

        private long lines(Tree tree) {
            long from = trees.getSourcePositions().getStartPosition(unit, tree);
            long till = trees.getSourcePositions().getEndPosition(unit, tree);
            return unit.getLineMap().getLineNumber(till) - unit.getLineMap().getLineNumber(from) + 1;
        }

        private void never(Tree tree) {
            want(false, at(tree) + tree.getKind());
        }

        @Override
        public Void visitImport(ImportTree tree, Void none) {
            want(tree.getQualifiedIdentifier().toString().equals("java.util.Arrays"), at(tree) + tree);
            return super.visitImport(tree, none);
        }

        @Override
        public Void visitClass(ClassTree tree, Void none) {
            classes++;
            Set<javax.lang.model.element.Modifier> flags = tree.getModifiers().getFlags();
            boolean outer = tree.getSimpleName().contentEquals("TwoMouths");
            want(outer || flags.contains(javax.lang.model.element.Modifier.STATIC), at(tree) + "not static");
            want(!tree.getSimpleName().isEmpty(), at(tree) + "without a name");
            int fields = 0;
            for (Tree member : tree.getMembers()) {
                if (member instanceof VariableTree field) {
                    fields += isStatic(field) ? 0 : 1;
                    want(!isStatic(field) || isConstant(field), at(field) + field.getName());
                }
                want(member.getKind() != Tree.Kind.BLOCK, at(member) + "a block of a class");
            }
            want(fields <= 20, at(tree) + fields + " fields");
            return super.visitClass(tree, none);
        }

        private static boolean isStatic(VariableTree field) {
            return field.getModifiers().getFlags().contains(javax.lang.model.element.Modifier.STATIC);
        }

        private static boolean isConstant(VariableTree field) {
            return field.getModifiers().getFlags().contains(javax.lang.model.element.Modifier.FINAL)
                    && STATIC_TYPES.contains(field.getType().toString());
        }

        @Override
        public Void visitMethod(MethodTree tree, Void none) {
            Element method = trees.getElement(getCurrentPath());
            boolean open = tree.getModifiers().getFlags().contains(javax.lang.model.element.Modifier.PUBLIC);
            methods++;
            want(lines(tree) <= 60, at(tree) + tree.getName() + " has " + lines(tree) + " lines");
            want(tree.getParameters().size() <= 7, at(tree) + tree.getName() + " takes too many");
            want(open || !FACE.contains(tree.getName().toString()), at(tree) + tree.getName() + " is of the face");
            Element before = within;
            within = method;
            calls.computeIfAbsent(method, m -> new LinkedHashSet<>());
            super.visitMethod(tree, none);
            within = before;
            return null;
        }

        @Override
        public Void visitMethodInvocation(MethodInvocationTree tree, Void none) {
            Element called = trees.getElement(getCurrentPath());
            if (called != null && called.getKind() == ElementKind.METHOD) {
                TypeElement owner = (TypeElement) called.getEnclosingElement();
                String name = owner.getQualifiedName() + "." + called.getSimpleName();
                boolean own = owner.getQualifiedName().toString().startsWith("TwoMouths");
                want(own || LIBRARY.contains(name), at(tree) + "the library's " + name);
                if (own && within != null) {
                    calls.get(within).add(called);
                }
            }
            return super.visitMethodInvocation(tree, none);
        }

        @Override
        public Void visitNewClass(NewClassTree tree, Void none) {
            want(tree.getClassBody() == null, at(tree) + "a class without a name");
            want(within != null && within.getKind() == ElementKind.CONSTRUCTOR || within == null,
                    at(tree) + "an object made by a call");
            return super.visitNewClass(tree, none);
        }

        @Override
        public Void visitBinary(BinaryTree tree, Void none) {
            String type = String.valueOf(trees.getTypeMirror(getCurrentPath()));
            want(!type.equals("java.lang.String"), at(tree) + "texts joined by +");
            return super.visitBinary(tree, none);
        }

        @Override
        public Void visitLiteral(LiteralTree tree, Void none) {
            if (tree.getValue() instanceof String text) {
                want(text.chars().allMatch(c -> c >= 1 && c <= 127), at(tree) + "a sign in a text");
            }
            return super.visitLiteral(tree, none);
        }

        @Override
        public Void visitThrow(ThrowTree tree, Void none) {
            never(tree);
            return null;
        }

        @Override
        public Void visitTry(TryTree tree, Void none) {
            never(tree);
            return null;
        }

        @Override
        public Void visitLambdaExpression(LambdaExpressionTree tree, Void none) {
            never(tree);
            return null;
        }

        @Override
        public Void visitMemberReference(MemberReferenceTree tree, Void none) {
            never(tree);
            return null;
        }

        @Override
        public Void visitAssert(AssertTree tree, Void none) {
            never(tree);
            return null;
        }

        @Override
        public Void visitSynchronized(SynchronizedTree tree, Void none) {
            never(tree);
            return null;
        }

        private void finish() {
            want(classes <= 12, classes + " classes");
            for (Element method : calls.keySet()) {
                deepest = Math.max(deepest, depth(method, new HashSet<>()));
            }
            want(deepest <= 8, "calls go " + deepest + " deep");
        }

        /** Rule 11: how deep calls go, a recursion being gone into once. */
        private int depth(Element method, Set<Element> open) {
            if (!open.add(method)) {
                return 0;
            }
            int most = 0;
            for (Element called : calls.getOrDefault(method, Set.of())) {
                most = Math.max(most, depth(called, open));
            }
            open.remove(method);
            return 1 + most;
        }
    }
}
