import com.sun.source.tree.*;
import com.sun.source.util.JavacTask;
import com.sun.source.util.SourcePositions;
import com.sun.source.util.TreeScanner;
import com.sun.source.util.Trees;
import java.io.File;
import java.lang.reflect.Constructor;
import java.lang.reflect.Field;
import java.lang.reflect.Method;
import java.lang.reflect.Modifier;
import java.util.ArrayList;
import java.util.Arrays;
import java.util.EnumSet;
import java.util.HashMap;
import java.util.HashSet;
import java.util.List;
import java.util.Map;
import java.util.Set;
import java.util.TreeMap;
import java.util.TreeSet;
import javax.tools.JavaCompiler;
import javax.tools.StandardJavaFileManager;
import javax.tools.ToolProvider;

/** Looks at the source of BallotDesk by the rules of LANGUAGE.md that a program can see, from the project's root. */
public final class LanguageTest {
    private static final String SOURCE = "src/main/java/BallotDesk.java";
    private static final Set<String> PUBLIC = new TreeSet<>(List.of("define", "quorum", "system", "begin", "power", "ask",
            "pick", "vote", "propose", "sync", "complete", "hear", "node", "ballot", "tally", "chosen", "possible", "learned",
            "common", "answers", "votes", "drive"));
    private static final Set<Tree.Kind> FORBIDDEN = EnumSet.of(Tree.Kind.IMPORT, Tree.Kind.THROW, Tree.Kind.TRY,
            Tree.Kind.CATCH, Tree.Kind.SYNCHRONIZED, Tree.Kind.ASSERT, Tree.Kind.INSTANCE_OF, Tree.Kind.LAMBDA_EXPRESSION,
            Tree.Kind.MEMBER_REFERENCE, Tree.Kind.NEW_CLASS, Tree.Kind.NULL_LITERAL, Tree.Kind.STRING_LITERAL,
            Tree.Kind.FLOAT_LITERAL, Tree.Kind.DOUBLE_LITERAL, Tree.Kind.ENHANCED_FOR_LOOP, Tree.Kind.PACKAGE,
            Tree.Kind.INTERFACE, Tree.Kind.ENUM, Tree.Kind.RECORD, Tree.Kind.ANNOTATION);
    private static final Set<String> TYPES = Set.of("int", "long", "short", "byte", "char", "boolean", "void",
            "int[]", "long[]", "short[]", "byte[]", "char[]", "boolean[]");
    private static int wrong = 0;

    private static void wrong(int rule, String what) {
        wrong++;
        System.out.println("rule " + rule + ": " + what);
    }

    public static void main(String[] args) throws Exception {
        lookAtFace();
        JavaCompiler compiler = ToolProvider.getSystemJavaCompiler();
        try (StandardJavaFileManager files = compiler.getStandardFileManager(null, null, null)) {
            JavacTask task = (JavacTask) compiler.getTask(null, files, null, null, null,
                    files.getJavaFileObjects(new File(SOURCE)));
            CompilationUnitTree unit = task.parse().iterator().next();
            new Scanner(unit, Trees.instance(task).getSourcePositions()).look();
        }
        System.out.println(wrong == 0 ? "the language is kept to" : wrong + " places do not keep to the language");
        if (wrong != 0) System.exit(1);
    }

    private static void lookAtFace() {
        Class<?> desk = BallotDesk.class;
        if (!Modifier.isPublic(desk.getModifiers()) || !Modifier.isFinal(desk.getModifiers())) wrong(1, "public and final");
        Set<String> seen = new TreeSet<>();
        for (Method m : desk.getDeclaredMethods()) {
            if (Modifier.isPrivate(m.getModifiers())) {
                if (PUBLIC.contains(m.getName())) wrong(1, "private " + m.getName());
            } else if (!Modifier.isPublic(m.getModifiers()) || !seen.add(m.getName())) {
                wrong(1, m.toString());
            }
        }
        if (!seen.equals(PUBLIC)) wrong(1, "public methods " + seen);
        Constructor<?>[] made = desk.getDeclaredConstructors();
        if (made.length != 1 || !Modifier.isPublic(made[0].getModifiers())) wrong(1, Arrays.toString(made));
        int fields = 0;
        for (Field f : desk.getDeclaredFields()) {
            boolean constant = Set.of("REFUSED", "FULL", "NONE").contains(f.getName());
            if (Modifier.isPublic(f.getModifiers()) != constant || !constant && !Modifier.isPrivate(f.getModifiers())) {
                wrong(1, f.toString());
            }
            boolean isStatic = Modifier.isStatic(f.getModifiers());
            if (isStatic && f.getType() != int.class && f.getType() != long.class) wrong(5, f.toString());
            if (!isStatic) fields++;
        }
        if (fields > 40) wrong(10, fields + " fields");
    }

    private static final class Scanner extends TreeScanner<Void, Void> {
        private final CompilationUnitTree unit;
        private final SourcePositions places;
        private final Map<String, Set<String>> calls = new TreeMap<>();
        private final Map<String, Integer> depths = new HashMap<>();
        private final Set<String> arrays = new HashSet<>();
        private String method = "";
        private int argumentDepth = 0;
        private int classes = 0;

        Scanner(CompilationUnitTree unit, SourcePositions places) {
            this.unit = unit;
            this.places = places;
        }

        void look() {
            scan(unit, null);
            if (classes != 1) wrong(1, classes + " classes");
            for (String name : calls.keySet()) {
                int deep = depth(name, new ArrayList<>());
                if (deep > 6) wrong(10, name + " calls " + deep + " deep");
            }
        }

        private long line(long place) {
            return unit.getLineMap().getLineNumber(place);
        }

        private String at(Tree tree) {
            return "line " + line(places.getStartPosition(unit, tree)) + ": " + tree;
        }

        private int depth(String name, List<String> path) {
            if (path.contains(name)) {
                wrong(8, "recursion " + path);
                return 0;
            }
            if (depths.containsKey(name)) return depths.get(name);
            List<String> longer = new ArrayList<>(path);
            longer.add(name);
            int deep = 1;
            for (String called : calls.getOrDefault(name, Set.of())) {
                if (!calls.containsKey(called)) wrong(3, name + " calls " + called);
                deep = Math.max(deep, 1 + depth(called, longer));
            }
            depths.put(name, deep);
            return deep;
        }

        @Override
        public Void scan(Tree tree, Void nothing) {
            if (tree != null && FORBIDDEN.contains(tree.getKind())) wrong(6, at(tree));
            return super.scan(tree, nothing);
        }

        @Override
        public Void visitClass(ClassTree tree, Void nothing) {
            classes++;
            for (Tree member : tree.getMembers()) {
                if (member instanceof BlockTree) wrong(5, at(member));
                if (member instanceof VariableTree v && v.getType().getKind() == Tree.Kind.ARRAY_TYPE) {
                    arrays.add(v.getName().toString());
                }
            }
            return super.visitClass(tree, nothing);
        }

        @Override
        public Void visitMethod(MethodTree tree, Void nothing) {
            method = tree.getName().toString();
            if (calls.put(method, new TreeSet<>()) != null) wrong(1, "overloaded " + method);
            if (tree.getParameters().size() > 7) wrong(10, at(tree));
            long lines = line(places.getEndPosition(unit, tree)) - line(places.getStartPosition(unit, tree)) + 1;
            if (lines > 60) wrong(10, method + " has " + lines + " lines");
            if (tree.getReturnType() != null && !Set.of("int", "boolean", "void", "long").contains(tree.getReturnType().toString())) {
                wrong(4, method + " answers " + tree.getReturnType());
            }
            super.visitMethod(tree, nothing);
            method = "";
            return null;
        }

        @Override
        public Void visitVariable(VariableTree tree, Void nothing) {
            if (!TYPES.contains(String.valueOf(tree.getType()))) wrong(2, at(tree));
            return super.visitVariable(tree, nothing);
        }

        @Override
        public Void visitNewArray(NewArrayTree tree, Void nothing) {
            if (!method.isEmpty() || tree.getDimensions().size() != 1) wrong(4, at(tree));
            for (ExpressionTree length : tree.getDimensions()) {
                Tree.Kind kind = length.getKind();
                if (kind != Tree.Kind.IDENTIFIER && kind != Tree.Kind.INT_LITERAL) wrong(4, at(tree));
            }
            return super.visitNewArray(tree, nothing);
        }

        @Override
        public Void visitAssignment(AssignmentTree tree, Void nothing) {
            String name = tree.getVariable().toString().replace("this.", "");
            boolean element = tree.getVariable().getKind() == Tree.Kind.ARRAY_ACCESS;
            if (!element && arrays.contains(name)) wrong(4, at(tree));
            return super.visitAssignment(tree, nothing);
        }

        @Override
        public Void visitMethodInvocation(MethodInvocationTree tree, Void nothing) {
            String called = tree.getMethodSelect().toString();
            // A constructor's own call of super() is written by the compiler.
            if (called.equals("super")) return null;
            if (argumentDepth > 0) wrong(10, "a call inside arguments, " + at(tree));
            calls.get(method).add(called);
            argumentDepth++;
            scan(tree.getArguments(), nothing);
            argumentDepth--;
            return null;
        }

        @Override
        public Void visitForLoop(ForLoopTree tree, Void nothing) {
            if (tree.getCondition() == null || tree.getUpdate().isEmpty()) wrong(8, at(tree));
            return super.visitForLoop(tree, nothing);
        }
    }
}
