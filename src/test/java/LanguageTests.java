import java.nio.file.Files;
import java.nio.file.Path;
import java.util.List;
import java.util.Set;
import java.util.regex.Matcher;
import java.util.regex.Pattern;

/** What of LANGUAGE.md can be seen in the source itself. */
public final class LanguageTests {
    private static final Check C = new Check();

    public static void main(String[] args) throws Exception {
        String source = Files.readString(Path.of("src/main/java/WhereFound.java"));
        C.part("language");
        String code = source.replaceAll("/\\*(?s:.*?)\\*/", "").replaceAll("//.*", "");
        C.holds("plain signs", code.chars().allMatch(c -> c >= 1 && c < 128));
        for (String word : List.of("::", "Exact(", "finally", "synchronized", "assert ", "package ",
            "protected ", "getMessage", "hashCode", "static {", "throws Exception", "Throwable",
            "catch (Exception", "catch (RuntimeException", "NullPointer", "ClassCast",
            "ArrayIndex", "NegativeArraySize", "ArrayStore")) {
            C.holds("no " + word, !code.contains(word));
        }
        for (String line : code.split("\n")) {
            C.holds("no lambda: " + line,
                !line.contains("->") || line.matches(" *(case|default).*"));
        }
        only(code, "import ([\\w.]+);", Set.of("java.util.ArrayList", "java.util.Arrays",
            "java.util.Iterator", "java.util.List", "java.util.NoSuchElementException"));
        only(code, "throw new (\\w+)", Set.of("IllegalStateException", "IllegalArgumentException",
            "IndexOutOfBoundsException", "ArithmeticException", "UnsupportedOperationException",
            "NoSuchElementException", "RuntimeException"));
        only(code, "System\\.(\\w+)", Set.of("arraycopy"));
        only(code, "Arrays\\.(\\w+)\\(", Set.of("copyOf", "copyOfRange", "fill"));
        C.holds("no more than 12 classes inside",
            many(code, "\\b(class|record|enum|interface) \\w+") <= 13);
        C.holds("no package-visible static state",
            many(code, "(?m)^\\s+(private )?static (?!final)\\w+(\\[\\])? \\w+( =|;)") == 0);
        methods(code);
        C.finish();
    }

    private static void only(String code, String pattern, Set<String> known) {
        Matcher m = Pattern.compile(pattern).matcher(code);
        while (m.find()) {
            C.holds(m.group(), known.contains(m.group(1)));
        }
    }

    private static int many(String code, String pattern) {
        return (int) Pattern.compile(pattern).matcher(code).results().count();
    }

    /** A method's head stands on one line of its own and ends with a brace, as its end does. */
    private static void methods(String code) {
        String[] lines = code.split("\n");
        Pattern head = Pattern.compile("^( +)[\\w\\[\\] ]+\\(([^()]*)\\)[\\w ]* \\{$");
        for (int i = 0; i < lines.length; i++) {
            Matcher m = head.matcher(lines[i]);
            if (!m.find() || lines[i].matches(" +(if|for|while|switch|\\} else).*")) {
                continue;
            }
            int end = i;
            while (!lines[end].equals(m.group(1) + "}")) {
                end++;
            }
            C.holds("at most 60 lines:" + lines[i], end - i < 60);
            C.holds("at most 7 parameters:" + lines[i], m.group(2).split(",").length <= 7);
        }
    }
}
