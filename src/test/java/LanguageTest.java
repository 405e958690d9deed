import com.sun.source.tree.*;
import com.sun.source.util.JavacTask;
import com.sun.source.util.SourcePositions;
import com.sun.source.util.TreeScanner;
import com.sun.source.util.Trees;
import java.io.File;
import java.util.ArrayList;
import java.util.HashMap;
import java.util.HashSet;
import java.util.List;
import java.util.Map;
import java.util.Set;
import java.util.TreeSet;
import javax.lang.model.element.Modifier;
import javax.tools.JavaCompiler;
import javax.tools.StandardJavaFileManager;
import javax.tools.ToolProvider;

/** The rules of LANGUAGE.md that can be seen in the source. */
public final class LanguageTest {
    private static final String SOURCE = "src/main/java/WeighedWhales.java";
    private static final Set<String> FACE = Set.of("feed", "end", "text", "fault", "rule", "place", "level", "beast", "part",
        "mark", "own", "law", "rot", "gangs", "lump", "go", "wet", "floats", "has", "best", "worth", "salted", "share", "tell",
        "forget", "laws", "whose", "strand", "luck", "open", "drift", "keep", "back", "sheet", "lay", "read", "torn", "count");
    private static final Set<String> LIBRARY = Set.of("Arrays.fill", "System.arraycopy", "Math.min", "Math.max", "Math.floorMod",
        "Integer.bitCount", "name.length", "name.charAt");
    private static final Set<Tree.Kind> RULED_OUT = Set.of(Tree.Kind.THROW, Tree.Kind.TRY, Tree.Kind.CATCH, Tree.Kind.SYNCHRONIZED,
        Tree.Kind.ASSERT, Tree.Kind.LAMBDA_EXPRESSION, Tree.Kind.MEMBER_REFERENCE, Tree.Kind.ENUM, Tree.Kind.INTERFACE,
        Tree.Kind.ANNOTATION, Tree.Kind.INSTANCE_OF, Tree.Kind.DOUBLE_LITERAL, Tree.Kind.FLOAT_LITERAL);

    private static final List<String> WRONG = new ArrayList<>();

    private static final Map<String, Set<String>> CALLS = new HashMap<>();

    public static void main(String[] args) throws Exception {
        JavaCompiler compiler = ToolProvider.getSystemJavaCompiler();
        StandardJavaFileManager files = compiler.getStandardFileManager(null, null, null);
        JavacTask task = (JavacTask) compiler.getTask(null, files, null, null, null, files.getJavaFileObjects(new File(SOURCE)));
        Iterable<? extends CompilationUnitTree> units = task.parse();
        SourcePositions positions = Trees.instance(task).getSourcePositions();
        for (CompilationUnitTree unit : units) {
            demand(unit.getPackageName() == null, "no package line");
            for (ImportTree i : unit.getImports()) {
                demand(i.toString().trim().equals("import java.util.Arrays;"), "only Arrays is imported");
            }
            new Scan(unit, positions).scan(unit, "");
        }
        face();
        depth();
        for (String line : WRONG) {
            System.out.println(line);
        }
        System.out.println("LanguageTest: " + WRONG.size() + " rules are broken");
        if (!WRONG.isEmpty()) {
            System.exit(1);
        }
    }

    private static void demand(boolean holds, String what) {
        if (!holds) {
            WRONG.add(what);
        }
    }

    private static void face() throws Exception {
        Class<?> c = WeighedWhales.class;
        Set<String> found = new TreeSet<>();
        for (java.lang.reflect.Method m : c.getDeclaredMethods()) {
            int mod = m.getModifiers();
            if (java.lang.reflect.Modifier.isPublic(mod)) {
                found.add(m.getName());
                demand(m.getReturnType() == (m.getName().equals("luck") ? long.class : int.class), "1: answer of " + m.getName());
                for (Class<?> p : m.getParameterTypes()) {
                    demand(p == int.class, "1: a parameter of " + m.getName());
                }
            } else {
                demand(java.lang.reflect.Modifier.isPrivate(mod) || m.isSynthetic(), "1: " + m.getName() + " can be seen");
            }
        }
        demand(found.equals(new TreeSet<>(FACE)), "1: the public methods");
        for (java.lang.reflect.Field f : c.getDeclaredFields()) {
            int mod = f.getModifiers();
            boolean constant = Set.of("BAD", "STATE", "FULL", "NONE").contains(f.getName());
            demand(constant == java.lang.reflect.Modifier.isPublic(mod), "1: field " + f.getName());
            demand(constant || java.lang.reflect.Modifier.isPrivate(mod), "1: field " + f.getName());
        }
        demand(java.lang.reflect.Modifier.isFinal(c.getModifiers()), "1: final");
        demand(c.getDeclaredConstructors().length == 1 && c.getConstructors().length == 1, "1: one constructor");
        demand(c.getDeclaredClasses().length < 12, "11: classes");
        for (Class<?> inside : c.getDeclaredClasses()) {
            demand(java.lang.reflect.Modifier.isStatic(inside.getModifiers()), "2: " + inside.getName() + " is static");
            int fields = 0;
            for (java.lang.reflect.Field f : inside.getDeclaredFields()) {
                boolean fixed = java.lang.reflect.Modifier.isStatic(f.getModifiers());
                demand(!fixed || java.lang.reflect.Modifier.isFinal(f.getModifiers()), "5: " + f.getName());
                fields += fixed ? 0 : 1;
            }
            demand(fields <= 20, "11: fields of " + inside.getName());
        }
    }

    /** Calls that are no recursion, by names: at most eight methods are open. */
    private static void depth() {
        for (String name : FACE) {
            int deep = deepest(name, new HashSet<>());
            demand(deep <= 8, "11: " + name + " goes " + deep + " deep");
        }
    }

    private static int deepest(String name, Set<String> open) {
        if (!CALLS.containsKey(name) || !open.add(name)) {
            return 0;
        }
        int deep = 0;
        for (String next : CALLS.get(name)) {
            deep = Math.max(deep, deepest(next, open));
        }
        open.remove(name);
        return deep + 1;
    }

    private static final class Scan extends TreeScanner<Void, String> {
        private final CompilationUnitTree unit;
        private final SourcePositions positions;
        private String className = "";

        Scan(CompilationUnitTree unit, SourcePositions positions) {
            this.unit = unit;
            this.positions = positions;
        }

        @Override
        public Void scan(Tree tree, String method) {
            if (tree != null) {
                demand(!RULED_OUT.contains(tree.getKind()), "6: " + tree.getKind() + " in " + method);
            }
            return super.scan(tree, method);
        }

        @Override
        public Void visitClass(ClassTree tree, String method) {
            String outer = className;
            className = tree.getSimpleName().toString();
            demand(!className.isEmpty() && method.isEmpty(), "2: a local or anonymous class in " + method);
            super.visitClass(tree, method);
            className = outer;
            return null;
        }

        @Override
        public Void visitMethod(MethodTree tree, String method) {
            String name = tree.getName().toString();
            boolean open = tree.getModifiers().getFlags().contains(Modifier.PUBLIC);
            demand(open || !FACE.contains(name), "1: " + name + " bears the name of a public method");
            demand(tree.getParameters().size() <= 7, "11: parameters of " + name);
            long from = unit.getLineMap().getLineNumber(positions.getStartPosition(unit, tree));
            long to = unit.getLineMap().getLineNumber(positions.getEndPosition(unit, tree));
            demand(to - from < 60, "11: " + name + " is long");
            CALLS.putIfAbsent(name, new TreeSet<>());
            return super.visitMethod(tree, name);
        }

        @Override
        public Void visitMethodInvocation(MethodInvocationTree tree, String method) {
            String called = tree.getMethodSelect().toString();
            String name = called.substring(called.lastIndexOf('.') + 1);
            CALLS.computeIfAbsent(method, k -> new TreeSet<>()).add(name);
            demand(!FACE.contains(name), "11: " + method + " calls a public method, " + name);
            boolean big = Character.isUpperCase(called.charAt(0)) || called.startsWith("name.");
            demand(!big || LIBRARY.contains(called), "4: " + called);
            return super.visitMethodInvocation(tree, method);
        }

        @Override
        public Void visitNewArray(NewArrayTree tree, String method) {
            demand(method.isEmpty() || method.equals("<init>"), "12: a row is made in " + method);
            return super.visitNewArray(tree, method);
        }

        @Override
        public Void visitNewClass(NewClassTree tree, String method) {
            demand(method.equals("<init>"), "12: an object is made in " + method);
            return super.visitNewClass(tree, method);
        }

        @Override
        public Void visitVariable(VariableTree tree, String method) {
            Set<Modifier> flags = tree.getModifiers().getFlags();
            if (flags.contains(Modifier.STATIC)) {
                demand(flags.contains(Modifier.FINAL) && tree.getType().toString().equals("int"), "5: " + tree.getName());
            }
            return super.visitVariable(tree, method);
        }
    }
}
