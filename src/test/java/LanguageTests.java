import java.nio.file.Files;
import java.nio.file.Path;
import java.util.List;
import java.util.Set;
import java.util.regex.Matcher;
import java.util.regex.Pattern;

/** What of LANGUAGE.md can be seen in the source itself. */
public final class LanguageTests {
    private static final Check C = new Check();

    public static void main(String[] args) throws Exception {
        String source = Files.readString(Path.of("src/main/java/WhereFound.java"));
        C.part("language");
        C.holds("plain signs", source.chars().allMatch(c -> c == '\n' || c >= 32 && c < 127));
        String code = source.replaceAll("/\\*(?s:.*?)\\*/", "").replaceAll("//.*", "");
        for (String word : List.of("->", "::", "Exact", "finally", "synchronized", "assert",
            "catch", "try", "package", "protected", "getMessage", "values()", "hashCode",
            "toString", "static {", "throws Exception", "double", "float", "var ")) {
            C.holds("no " + word, !code.contains(word));
        }
        only(code, "import ([\\w.]+);",
            Set.of("java.util.Arrays", "java.util.NoSuchElementException"));
        only(code, "throw new (\\w+)", Set.of("NoSuchElementException"));
        only(code, "System\\.(\\w+)", Set.of("arraycopy"));
        only(code, "Arrays\\.(\\w+)\\(", Set.of("fill"));
        only(code, "\\bMath\\.(\\w+)", Set.of("min"));
        only(code, "Integer\\.(\\w+)", Set.of("compare", "bitCount"));
        C.holds("no more than 12 classes", many(code, "\\bclass \\w+") <= 12);
        C.holds("no package-visible static state",
            many(code, "(?m)^\\s+(private )?static (?!final)\\w+(\\[\\])? \\w+( =|;)") == 0);
        methods(code);
        C.finish();
    }

    private static void only(String code, String pattern, Set<String> known) {
        Matcher m = Pattern.compile(pattern).matcher(code);
        while (m.find()) {
            C.holds(m.group(), known.contains(m.group(1)));
        }
    }

    private static int many(String code, String pattern) {
        return (int) Pattern.compile(pattern).matcher(code).results().count();
    }

    /** A method's head stands on one line of its own and ends with a brace, as its end does. */
    private static void methods(String code) {
        String[] lines = code.split("\n");
        Pattern head = Pattern.compile("^( +)[\\w\\[\\] ]+\\(([^()]*)\\)[\\w ]* \\{$");
        for (int i = 0; i < lines.length; i++) {
            Matcher m = head.matcher(lines[i]);
            if (!m.find() || lines[i].matches(" +(if|for|while|switch|\\} else).*")) {
                continue;
            }
            int end = i;
            while (!lines[end].equals(m.group(1) + "}")) {
                end++;
            }
            C.holds("at most 60 lines:" + lines[i], end - i < 60);
            C.holds("at most 7 parameters:" + lines[i], m.group(2).split(",").length <= 7);
        }
    }
}
