import java.io.File;
import java.io.IOException;
import java.lang.reflect.Field;
import java.lang.reflect.Method;
import java.lang.reflect.Modifier;
import java.net.URL;
import java.net.URLClassLoader;
import java.nio.file.Files;
import java.nio.file.Path;
import java.util.ArrayList;
import java.util.List;
import java.util.regex.Matcher;
import java.util.regex.Pattern;
import javax.tools.JavaCompiler;
import javax.tools.ToolProvider;

/** README.md: its examples are compiled and run, and its table and lists are compared with what there is. */
final class ReadmeTests {
    private static final Pattern EXAMPLE = Pattern.compile("(?s)```java\n(.*?)```");
    private static final Pattern ANSWER = Pattern.compile("\\s*(x\\.\\w+\\(.*\\));\\s+// (-?\\d+)(?!\\d).*");
    private static final Pattern ROW = Pattern.compile("(?m)^\\| `(\\w+)` \\| (-?\\d+) \\|");
    private static final Pattern NAMED_TEST = Pattern.compile("`([A-Z]\\w+(?:Tests|Boundaries|Runs))`");

    private ReadmeTests() {
    }

    static void run(Checks c, String page) throws ReflectiveOperationException, IOException {
        c.topic("README.md");
        String text = Files.readString(Path.of(page));
        examples(c, text);
        table(c, text);
        methodsAndConstants(c, text);
        tests(c, text, Path.of(page).toAbsolutePath().getParent().resolve("src/test/java"));
    }

    private static void examples(Checks c, String text) throws ReflectiveOperationException, IOException {
        List<String> calls = new ArrayList<>();
        List<Long> answers = new ArrayList<>();
        String program = programOf(text, calls, answers);
        c.holds("there are examples", calls.size() > 20);
        Path folder = Files.createTempDirectory("readme");
        try {
            List<Long> got = resultsOf(folder, program);
            c.due("the number of answers in the examples", got.size(), answers.size());
            for (int i = 0; i < Math.min(got.size(), answers.size()); i++) {
                c.due(calls.get(i), got.get(i), answers.get(i));
            }
        } finally {
            removeAll(folder);
        }
    }

    /** A class that runs each example by itself and gathers the answers of the calls that show one. */
    private static String programOf(String text, List<String> calls, List<Long> answers) {
        StringBuilder program = new StringBuilder("public class ReadmeExamples {\n");
        program.append("public static void run(java.util.List<Long> got) {\n");
        Matcher example = EXAMPLE.matcher(text);
        while (example.find()) {
            program.append("{\n");
            for (String line : example.group(1).split("\n")) {
                Matcher answer = ANSWER.matcher(line);
                if (answer.matches()) {
                    program.append("got.add((long) ").append(answer.group(1)).append(");\n");
                    calls.add(answer.group(1));
                    answers.add(Long.valueOf(answer.group(2)));
                } else {
                    program.append(line).append('\n');
                }
            }
            program.append("}\n");
        }
        return program.append("}\n}\n").toString();
    }

    private static List<Long> resultsOf(Path folder, String program) throws ReflectiveOperationException, IOException {
        List<Long> got = new ArrayList<>();
        Path file = folder.resolve("ReadmeExamples.java");
        Files.writeString(file, program);
        JavaCompiler compiler = ToolProvider.getSystemJavaCompiler();
        String classes = System.getProperty("java.class.path");
        int code = compiler.run(null, null, null, "-cp", classes, "-d", folder.toString(), file.toString());
        if (code == 0) {
            try (URLClassLoader loader = new URLClassLoader(new URL[] {folder.toUri().toURL()})) {
                loader.loadClass("ReadmeExamples").getMethod("run", List.class).invoke(null, got);
            }
        }
        return got;
    }

    private static void removeAll(Path folder) {
        File[] files = folder.toFile().listFiles();
        if (files != null) {
            for (File file : files) {
                file.delete();
            }
        }
        folder.toFile().delete();
    }

    private static void table(Checks c, String text) throws ReflectiveOperationException {
        Matcher row = ROW.matcher(text);
        int rows = 0;
        while (row.find()) {
            rows++;
            c.due(row.group(1), IharaZeta.class.getField(row.group(1)).getLong(null), Long.parseLong(row.group(2)));
        }
        c.due("the number of constants in the table", rows, 5);
    }

    private static void methodsAndConstants(Checks c, String text) {
        for (Method method : IharaZeta.class.getDeclaredMethods()) {
            if (Modifier.isPublic(method.getModifiers())) {
                c.holds("the page names " + method.getName(), text.contains("`" + method.getName() + "(")
                    || text.contains("`" + method.getName() + "`") || text.contains("x." + method.getName() + "("));
            }
        }
        for (Field field : IharaZeta.class.getFields()) {
            c.holds("the page names " + field.getName(), text.contains("`" + field.getName() + "`"));
        }
    }

    private static void tests(Checks c, String text, Path folder) {
        File[] files = folder.toFile().listFiles();
        c.holds("there are tests", files != null && files.length > 0);
        for (File file : files == null ? new File[0] : files) {
            String name = file.getName().replace(".java", "");
            c.holds("the page names " + name, text.contains("`" + name + "`"));
        }
        Matcher named = NAMED_TEST.matcher(text);
        while (named.find()) {
            c.holds("there is a test " + named.group(1), folder.resolve(named.group(1) + ".java").toFile().isFile());
        }
    }
}
