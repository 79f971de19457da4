import java.io.IOException;
import java.lang.reflect.Constructor;
import java.lang.reflect.Field;
import java.lang.reflect.Method;
import java.lang.reflect.Modifier;
import java.nio.file.Files;
import java.nio.file.Path;
import java.util.List;
import java.util.regex.Matcher;
import java.util.regex.Pattern;

/**
 * What of LANGUAGE.md can be seen in the source without a compiler (words, imports, lengths) and in
 * the compiled classes (kinds of classes, types and numbers of fields and parameters).
 */
final class LanguageTests {
    private static final String[] WORDS = {"throw", "throws", "try", "catch", "synchronized", "assert", "volatile",
        "native", "package", "protected", "var", "yield", "Exact", "System.out", "System.err", "currentTime",
        "nanoTime", "Random", "Thread", "Object", "equals", "hashCode", "toString", "->", "::", "double", "float"};

    private LanguageTests() {
    }

    static void run(Checks c, String file) throws IOException {
        c.topic("LANGUAGE.md");
        String source = Files.readString(Path.of(file));
        String code = withoutComments(source);
        for (String word : WORDS) {
            Matcher m = Pattern.compile("(?<![A-Za-z])" + Pattern.quote(word) + "(?![A-Za-z])").matcher(code);
            c.holds("the program does without " + word, !m.find());
        }
        Matcher imports = Pattern.compile("import ([^;]+);").matcher(code);
        while (imports.find()) {
            c.holds("import " + imports.group(1), imports.group(1).equals("java.util.Arrays"));
        }
        Matcher library = Pattern.compile("\\b(System|Math|Integer|Long|Arrays)\\.(\\w+)").matcher(code);
        while (library.find()) {
            c.holds(library.group(), library.group().matches(
                "System\\.arraycopy|Arrays\\.fill|Integer\\.bitCount|Long\\.MIN_VALUE"));
        }
        c.holds("the signs are plain", source.chars().allMatch(s -> s == '\n' || (s >= 32 && s < 127)));
        methodLengths(c, code);
        classes(c);
    }

    private static String withoutComments(String source) {
        return source.replaceAll("(?s)/\\*.*?\\*/", "").replaceAll("//[^\n]*", "");
    }

    private static void methodLengths(Checks c, String code) {
        String begin = "";
        int length = 0;
        for (String line : code.split("\n")) {
            length++;
            if (line.matches(" {4}( {4})?\\S.*\\) \\{") && !line.contains("new ")) {
                begin = line.trim();
                length = 0;
            }
            if (line.matches(" {4}( {4})?\\}") && !begin.isEmpty()) {
                c.holds(begin + " is short", length < 60);
                begin = "";
            }
        }
    }

    private static void classes(Checks c) {
        Class<?>[] all = IharaZeta.class.getNestMembers();
        c.holds("rule 11: some twelve classes, there are " + all.length, all.length <= 13);
        for (Class<?> type : all) {
            String name = type.getSimpleName();
            boolean own = type == IharaZeta.class;
            int modifiers = type.getModifiers();
            c.holds("rule 2: " + type + " stands inside, static", own || (type.isMemberClass() && Modifier.isStatic(modifiers)));
            c.holds("rule 1: " + name + " is not seen from outside",
                own || !(Modifier.isPublic(modifiers) || Modifier.isProtected(modifiers)));
            fields(c, type);
            for (Method method : type.getDeclaredMethods()) {
                c.holds("rule 2: " + method + " is written out", !method.isSynthetic());
                c.holds("rule 11: the parameters of " + method, method.getParameterCount() <= 7);
            }
            for (Constructor<?> constructor : type.getDeclaredConstructors()) {
                c.holds("rule 11: the parameters of " + constructor, constructor.getParameterCount() <= 7);
            }
        }
    }

    private static void fields(Checks c, Class<?> type) {
        int count = 0;
        for (Field field : type.getDeclaredFields()) {
            if (Modifier.isStatic(field.getModifiers())) {
                c.holds("rule 5: " + field + " is a constant",
                    Modifier.isFinal(field.getModifiers()) && isConstantType(field.getType()));
            } else {
                count++;
                c.holds("rule 3: the type of " + field, isAllowed(field.getType()));
            }
        }
        c.holds("rule 11: some twenty fields, " + type.getSimpleName() + " has " + count, count <= 20);
    }

    private static boolean isConstantType(Class<?> type) {
        return List.of(int.class, long.class, boolean.class, char.class, String.class,
            int[].class, long[].class, char[].class, byte[].class).contains(type);
    }

    private static boolean isAllowed(Class<?> type) {
        Class<?> element = type;
        int dimensions = 0;
        while (element.isArray()) {
            element = element.getComponentType();
            dimensions++;
        }
        boolean own = element.getNestHost() == IharaZeta.class;
        boolean text = dimensions == 0 && (element == String.class || element == StringBuilder.class);
        return dimensions <= (element.isPrimitive() ? 2 : 1) && (element.isPrimitive() || own || text || element == List.class);
    }
}
