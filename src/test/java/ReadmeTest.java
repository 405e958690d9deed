import java.io.File;
import java.lang.reflect.Method;
import java.lang.reflect.Modifier;
import java.net.URL;
import java.net.URLClassLoader;
import java.nio.file.Files;
import java.nio.file.Path;
import java.util.ArrayList;
import java.util.List;
import java.util.Set;
import java.util.TreeSet;
import java.util.function.BiConsumer;
import java.util.regex.Matcher;
import java.util.regex.Pattern;
import javax.tools.ToolProvider;

/** What README.md shows of calls and answers is what the class answers. */
public final class ReadmeTest {
    private static final Check C = new Check();
    private static final int MOST_CALLS = 512;
    private static final Pattern SHOWN = Pattern.compile("x\\.(\\w+)(\\(.*?\\));\\s*// (-?\\d+|BAD|STATE|FULL|NONE)(:.*)?");
    private static final Pattern FED = Pattern.compile("String text = \"(.*)\";");
    private static final Pattern TEXT_ROW = Pattern.compile("\\| `(.*)` \\| (-?\\d+) \\| (\\d) \\| .* \\|");
    private static final Pattern CONSTANT_ROW = Pattern.compile("\\| `(BAD|STATE|FULL|NONE)`, (-\\d+) \\| .*");
    private static final Pattern TEST_ROW = Pattern.compile("\\| (\\w+Test(?:, \\w+Test)*) \\| .* \\|");

    public static void main(String[] args) throws Exception {
        List<String> readme = Files.readAllLines(Path.of("README.md"));
        callsAndAnswers(javaLines(readme));
        texts(readme);
        constants(readme);
        tests(readme);
        C.finish("ReadmeTest");
    }

    private static List<String> javaLines(List<String> readme) {
        List<String> lines = new ArrayList<>();
        boolean inside = false;
        for (String line : readme) {
            if (line.startsWith("```")) {
                inside = line.equals("```java");
            } else if (inside) {
                lines.add(line);
            }
        }
        return lines;
    }

    /** The blocks are compiled as they stand, each call that is shown with its answer being told to a listener. */
    private static void callsAndAnswers(List<String> lines) throws Exception {
        C.in("the blocks of Java");
        StringBuilder program = new StringBuilder("public final class ReadmeRun {\n"
            + "public static void run(java.util.function.BiConsumer<String, Long> told) {\n");
        List<Long> due = new ArrayList<>();
        Set<String> shown = new TreeSet<>();
        int calls = 0;
        for (String line : lines) {
            Matcher m = SHOWN.matcher(line);
            if (m.matches()) {
                String call = "x." + m.group(1) + m.group(2);
                program.append("told.accept(\"").append(call).append("\", (long) ").append(call).append(");\n");
                due.add(number(m.group(3)));
                shown.add(m.group(1));
                calls++;
            } else {
                C.due("calls without an answer: " + line, line.startsWith("x.") ? 1 : 0, 0);
                program.append(line).append('\n');
                Matcher fed = FED.matcher(line);
                calls += fed.matches() ? fed.group(1).length() : 0;
            }
        }
        run(program.append("}\n}\n").toString(), due);
        C.due("no more calls than the document promises, of " + calls, calls <= MOST_CALLS ? 1 : 0, 1);
        for (Method m : WeighedWhales.class.getDeclaredMethods()) {
            if (Modifier.isPublic(m.getModifiers())) {
                C.due(m.getName() + " is shown", shown.contains(m.getName()) ? 1 : 0, 1);
            }
        }
    }

    private static void run(String program, List<Long> due) throws Exception {
        Path directory = Files.createTempDirectory("readme");
        Path source = directory.resolve("ReadmeRun.java");
        try {
            Files.writeString(source, program);
            int refused = ToolProvider.getSystemJavaCompiler().run(null, null, null, "-cp", System.getProperty("java.class.path"),
                "-d", directory.toString(), source.toString());
            C.due("compiling the blocks", refused, 0);
            if (refused == 0) {
                int[] next = {0};
                BiConsumer<String, Long> listener = (call, got) -> C.due(call, got, due.get(next[0]++));
                try (URLClassLoader loader = new URLClassLoader(new URL[] {directory.toUri().toURL()})) {
                    loader.loadClass("ReadmeRun").getMethod("run", BiConsumer.class).invoke(null, listener);
                }
                C.due("answers that came", next[0], due.size());
            }
        } finally {
            for (File file : directory.toFile().listFiles()) {
                Files.delete(file.toPath());
            }
            Files.delete(directory);
        }
    }

    private static long number(String word) {
        int at = List.of("BAD", "STATE", "FULL", "NONE").indexOf(word);
        return at < 0 ? Long.parseLong(word) : -1 - at;
    }

    private static void texts(List<String> readme) {
        C.in("the texts with a FAULT");
        Set<String> faults = new TreeSet<>();
        for (String line : readme) {
            Matcher m = TEXT_ROW.matcher(line);
            if (m.matches()) {
                WeighedWhales x = new WeighedWhales();
                C.due("text() of " + m.group(1), Check.tell(x, m.group(1)), Integer.parseInt(m.group(2)));
                C.due("fault() of " + m.group(1), x.fault(), Integer.parseInt(m.group(3)));
                faults.add(m.group(3));
            }
        }
        C.due("FAULTS that are shown", faults.size(), 7);
    }

    private static void constants(List<String> readme) throws Exception {
        C.in("the table of refusals");
        int rows = 0;
        for (String line : readme) {
            Matcher m = CONSTANT_ROW.matcher(line);
            if (m.matches()) {
                int is = WeighedWhales.class.getField(m.group(1)).getInt(null);
                C.due(m.group(1), is, Integer.parseInt(m.group(2)));
                rows++;
            }
        }
        C.due("constants that are shown", rows, 4);
    }

    private static void tests(List<String> readme) {
        C.in("the table of tests");
        Set<String> told = new TreeSet<>();
        for (String line : readme) {
            Matcher m = TEST_ROW.matcher(line);
            if (m.matches()) {
                told.addAll(List.of(m.group(1).split(", ")));
            }
        }
        Set<String> there = new TreeSet<>();
        for (String file : new File("src/test/java").list()) {
            if (file.endsWith("Test.java")) {
                there.add(file.substring(0, file.length() - ".java".length()));
            }
        }
        C.due("tests told " + told + ", tests there " + there, told.equals(there) ? 1 : 0, 1);
    }
}
