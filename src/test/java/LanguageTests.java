import java.io.IOException;
import java.nio.file.Files;
import java.nio.file.Path;
import java.util.regex.Matcher;
import java.util.regex.Pattern;

/** What of LANGUAGE.md can be seen in the source without a compiler: words, imports, lengths. */
final class LanguageTests {
    private static final String[] WORDS = {"throw", "throws", "try", "catch", "synchronized", "assert", "volatile",
        "native", "package", "protected", "var", "yield", "Exact", "System.out", "System.err", "currentTime",
        "nanoTime", "Random", "Thread", "Object", "equals", "hashCode", "toString", "->", "::", "double", "float"};

    private LanguageTests() {
    }

    static void run(Checks c, String file) throws IOException {
        c.topic("LANGUAGE.md");
        String source = Files.readString(Path.of(file));
        String code = withoutComments(source);
        for (String word : WORDS) {
            Matcher m = Pattern.compile("(?<![A-Za-z])" + Pattern.quote(word) + "(?![A-Za-z])").matcher(code);
            c.holds("the program does without " + word, !m.find());
        }
        Matcher imports = Pattern.compile("import ([^;]+);").matcher(code);
        while (imports.find()) {
            c.holds("import " + imports.group(1), imports.group(1).equals("java.util.Arrays"));
        }
        Matcher library = Pattern.compile("\\b(System|Math|Integer|Long|Arrays)\\.(\\w+)").matcher(code);
        while (library.find()) {
            c.holds(library.group(), library.group().matches(
                "System\\.arraycopy|Arrays\\.fill|Integer\\.bitCount|Long\\.MIN_VALUE"));
        }
        c.holds("the signs are plain", source.chars().allMatch(s -> s == '\n' || (s >= 32 && s < 127)));
        methodLengths(c, code);
    }

    private static String withoutComments(String source) {
        return source.replaceAll("(?s)/\\*.*?\\*/", "").replaceAll("//[^\n]*", "");
    }

    private static void methodLengths(Checks c, String code) {
        String begin = "";
        int length = 0;
        for (String line : code.split("\n")) {
            length++;
            if (line.matches(" {4}( {4})?\\S.*\\) \\{") && !line.contains("new ")) {
                begin = line.trim();
                length = 0;
            }
            if (line.matches(" {4}( {4})?\\}") && !begin.isEmpty()) {
                c.holds(begin + " is short", length < 60);
                begin = "";
            }
        }
    }
}
