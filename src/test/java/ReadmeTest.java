import java.io.IOException;
import java.lang.reflect.Field;
import java.lang.reflect.Method;
import java.lang.reflect.Modifier;
import java.net.URL;
import java.net.URLClassLoader;
import java.nio.file.Files;
import java.nio.file.Path;
import java.util.ArrayList;
import java.util.Comparator;
import java.util.List;
import java.util.TreeSet;
import java.util.regex.Matcher;
import java.util.regex.Pattern;
import java.util.stream.Stream;
import javax.tools.JavaCompiler;
import javax.tools.ToolProvider;

/** README.md: each of its examples is compiled and run, and answers as its comment says; each call has one. */
public final class ReadmeTest {
    private static final Pattern BLOCK = Pattern.compile("(?ms)^```java\\n(.*?)^```$");
    private static final Pattern ANSWERED = Pattern.compile("((?:x\\.|take\\().*\\)); +// (-?\\d+|[A-Z]+): .*");
    private static final Pattern ROW = Pattern.compile("(?m)^\\| `([a-z]+)\\(([^)]*)\\)` \\|");
    private static final String MADE = "KegBrooks x = new KegBrooks();";

    private static int passed = 0;
    private static int failed = 0;

    private ReadmeTest() {
    }

    public static void main(String[] args) throws Exception {
        String readme = Files.readString(Path.of(args.length > 0 ? args[0] : "README.md"));
        everyCallHasAnExample(readme);
        everyCallHasARow(readme);
        everyConstantIsTold(readme);
        holds("how the tests are run", readme.contains("bash .ci/run"));
        run(sourceOf(readme));
        System.out.println("ReadmeTest: " + passed + " passed, " + failed + " failed");
        if (failed > 0) {
            System.exit(1);
        }
    }

    /** Called by the examples, too. */
    public static void due(String call, long got, long want) {
        holds(call + " answers " + got + ", README.md says " + want, got == want);
    }

    private static void holds(String what, boolean so) {
        if (so) {
            passed++;
        } else {
            failed++;
            System.out.println("README.md: " + what);
        }
    }

    // ---- what README.md has

    private static void everyCallHasAnExample(String readme) {
        TreeSet<String> called = new TreeSet<>();
        TreeSet<String> answers = new TreeSet<>();
        for (Matcher block = BLOCK.matcher(readme); block.find();) {
            block.group(1).lines().forEach(line -> {
                Matcher m = ANSWERED.matcher(line);
                if (m.matches()) {
                    called.add(m.group(1).replaceAll("^x\\.|\\(.*$", ""));
                    answers.add(m.group(2));
                }
            });
        }
        for (Method m : KegBrooks.class.getDeclaredMethods()) {
            if (Modifier.isPublic(m.getModifiers())) {
                holds("an example of " + m.getName(), called.contains(m.getName()));
            }
        }
        for (String constant : List.of("BAD", "STATE", "FULL", "NONE")) {
            holds("an example of " + constant, answers.contains(constant));
        }
    }

    private static void everyCallHasARow(String readme) {
        TreeSet<String> rows = new TreeSet<>();
        for (Matcher m = ROW.matcher(readme); m.find();) {
            int parameters = m.group(2).isEmpty() ? 0 : m.group(2).split(",").length;
            holds("one row of " + m.group(1), rows.add(m.group(1) + " of " + parameters));
        }
        TreeSet<String> face = new TreeSet<>();
        for (Method m : KegBrooks.class.getDeclaredMethods()) {
            if (Modifier.isPublic(m.getModifiers())) {
                face.add(m.getName() + " of " + m.getParameterCount());
            }
        }
        holds("rows are " + rows + ", the face is " + face, rows.equals(face));
    }

    private static void everyConstantIsTold(String readme) throws IllegalAccessException {
        int told = 0;
        for (Field f : KegBrooks.class.getDeclaredFields()) {
            if (Modifier.isPublic(f.getModifiers())) {
                holds("what " + f.getName() + " is", readme.contains("| `" + f.getName() + "` | " + f.getInt(null) + " |"));
                told++;
            }
        }
        due("the number of constants", told, 4);
    }

    // ---- examples

    /** A class whose blocks are those of README.md: one that makes an object runs, another one is a function of it. */
    private static String sourceOf(String readme) {
        StringBuilder functions = new StringBuilder();
        StringBuilder calls = new StringBuilder();
        int blocks = 0;
        for (Matcher block = BLOCK.matcher(readme); block.find();) {
            if (!block.group(1).startsWith(MADE)) {
                functions.append(block.group(1));
                continue;
            }
            blocks++;
            calls.append("block").append(blocks).append("();\n");
            functions.append("static void block").append(blocks).append("() {\n");
            block.group(1).lines().forEach(line -> functions.append(statementOf(line)).append('\n'));
            functions.append("}\n");
        }
        holds("some examples", blocks > 0);
        return "public final class ReadmeExamples {\npublic static void run() {\n" + calls + "}\n" + functions + "}\n";
    }

    private static String statementOf(String line) {
        if (line.equals(MADE) || line.startsWith("for (")) {
            return line;
        }
        Matcher m = ANSWERED.matcher(line);
        if (!m.matches()) {
            holds("a call with its answer: " + line, false);
            return "";
        }
        String want = m.group(2).matches("[A-Z]+") ? "KegBrooks." + m.group(2) : m.group(2);
        String name = m.group(1).replace("\\", "\\\\").replace("\"", "\\\"");
        return "ReadmeTest.due(\"" + name + "\", " + m.group(1) + ", " + want + ");";
    }

    private static void run(String source) throws Exception {
        JavaCompiler javac = ToolProvider.getSystemJavaCompiler();
        if (javac == null) {
            holds("examples need a compiler", false);
            return;
        }
        Path folder = Files.createTempDirectory("readme");
        try {
            Path file = Files.writeString(folder.resolve("ReadmeExamples.java"), source);
            int exit = javac.run(null, null, null, "-cp", System.getProperty("java.class.path"), "-d", folder.toString(),
                file.toString());
            holds("the examples compile", exit == 0);
            if (exit == 0) {
                try (URLClassLoader loader = new URLClassLoader(new URL[] {folder.toUri().toURL()})) {
                    loader.loadClass("ReadmeExamples").getMethod("run").invoke(null);
                }
            }
        } finally {
            remove(folder);
        }
    }

    private static void remove(Path folder) throws IOException {
        List<Path> all = new ArrayList<>();
        try (Stream<Path> paths = Files.walk(folder)) {
            paths.sorted(Comparator.reverseOrder()).forEach(all::add);
        }
        for (Path path : all) {
            Files.delete(path);
        }
    }
}
