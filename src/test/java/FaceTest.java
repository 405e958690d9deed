import java.lang.reflect.Constructor;
import java.lang.reflect.Field;
import java.lang.reflect.Method;
import java.lang.reflect.Modifier;
import java.nio.file.Files;
import java.nio.file.Path;
import java.util.ArrayList;
import java.util.List;
import java.util.TreeSet;

/** The public face of the document: constants, constructor, every method's name, parameters and answer type. */
public final class FaceTest {
    private static final Check C = new Check();
    private static final Path SOURCE = Path.of("src/main/java/WeighedWhales.java");
    private static final String CONSTANTS = "public static final int BAD = -1, STATE = -2, FULL = -3, NONE = -4;";
    private static final String[] FACE = {
        "WeighedWhales()", "int feed(int c)", "int end(int n)", "int text()", "int fault()", "int rule(int what)",
        "int place(int i, int what)", "int level(int h)", "int beast(int b, int what)", "int part(int x, int what)",
        "int mark(int i, int v)", "int own(int i, int v)", "int law(int v)", "int rot(int v)", "int gangs(int v)",
        "int lump(int x, int v)", "int go(int x, int y)", "int wet(int h)", "int floats(int b)", "int has(int o)",
        "int best(int n, int what)", "int worth(int b, int n)", "int salted(int n)", "int share(int o, int v)",
        "int tell(int o, int w)", "int forget(int n)", "int laws()", "int whose(int i)", "int strand(int n, int h)",
        "long luck(int b, int what)", "int open()", "int drift(int seed, int n, int what)", "int keep(int k)", "int back(int k)",
        "int sheet(int k, int lane, int n)", "int lay(int k, int i, int v)", "int read(int k, int lane, int f, int n)",
        "int torn()", "int count(int what)",
    };

    public static void main(String[] args) throws Exception {
        constants();
        membersThatCanBeSeen();
        parametersByName();
        C.finish("FaceTest");
    }

    private static void demand(String what, boolean holds) {
        C.due(what, holds ? 1 : 0, 1);
    }

    private static void constants() throws Exception {
        C.in("the constants");
        String[] names = {"BAD", "STATE", "FULL", "NONE"};
        for (int i = 0; i < names.length; i++) {
            Field f = WeighedWhales.class.getDeclaredField(names[i]);
            int wanted = Modifier.PUBLIC | Modifier.STATIC | Modifier.FINAL;
            C.due("modifiers of " + names[i], f.getModifiers(), wanted);
            demand("type of " + names[i], f.getType() == int.class);
            // by reflection: the compiler would put its own copy of the constant here
            C.due(names[i], f.getInt(null), -1 - i);
        }
        C.due("public constants", WeighedWhales.class.getFields().length, names.length);
    }

    private static void membersThatCanBeSeen() {
        C.in("names, parameters, answers");
        C.due("modifiers of the class", WeighedWhales.class.getModifiers(), Modifier.PUBLIC | Modifier.FINAL);
        demand("no class above it, no package", WeighedWhales.class.getSuperclass() == Object.class
            && WeighedWhales.class.getInterfaces().length == 0 && WeighedWhales.class.getPackageName().isEmpty());
        TreeSet<String> due = new TreeSet<>();
        for (String line : FACE) {
            due.add(line.replaceAll("(int|long) \\w+(?=[,)])", "$1"));
        }
        TreeSet<String> found = new TreeSet<>();
        for (Constructor<?> k : WeighedWhales.class.getConstructors()) {
            found.add("WeighedWhales(" + types(k.getParameterTypes()) + ")");
            C.due("what the constructor throws", k.getExceptionTypes().length, 0);
        }
        for (Method m : WeighedWhales.class.getDeclaredMethods()) {
            if (Modifier.isPrivate(m.getModifiers()) || m.isSynthetic()) {
                continue;
            }
            C.due("modifiers of " + m.getName(), m.getModifiers(), Modifier.PUBLIC);
            C.due("what " + m.getName() + " throws", m.getExceptionTypes().length, 0);
            found.add(m.getReturnType().getName() + " " + m.getName() + "(" + types(m.getParameterTypes()) + ")");
        }
        for (String line : due) {
            demand(line + " is there", found.contains(line));
        }
        for (String line : found) {
            demand(line + " is in the document", due.contains(line));
        }
    }

    private static String types(Class<?>[] all) {
        List<String> names = new ArrayList<>();
        for (Class<?> c : all) {
            names.add(c.getName());
        }
        return String.join(", ", names);
    }

    private static void parametersByName() throws Exception {
        C.in("as the source tells them");
        List<String> lines = Files.readAllLines(SOURCE);
        demand(CONSTANTS, lines.contains("    " + CONSTANTS));
        for (String line : FACE) {
            demand(line, lines.contains("    public " + line + " {"));
        }
    }
}
