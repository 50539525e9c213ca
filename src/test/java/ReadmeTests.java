import java.lang.reflect.InvocationTargetException;
import java.lang.reflect.Method;
import java.lang.reflect.Modifier;
import java.net.URL;
import java.net.URLClassLoader;
import java.nio.file.Files;
import java.nio.file.Path;
import java.util.ArrayList;
import java.util.Comparator;
import java.util.List;
import java.util.TreeSet;
import java.util.regex.Matcher;
import java.util.regex.Pattern;
import java.util.stream.Stream;
import javax.tools.ToolProvider;

/**
 * What README.md shows answers so. Its pieces of Java are taken from the page itself and compiled,
 * with a question behind each call that has its answer beside it.
 */
public final class ReadmeTests {
    private static final Check C = new Check();

    private static final String ANSWER = "(-?\\d+|true|false|NoSuchElementException)";
    /** A call, its answer kept or not, and what is said of it. */
    private static final Pattern ASKED = Pattern.compile(
        "^((int \\w+) = )?((?:x\\.)?\\w+\\(.*\\));\\s+// " + ANSWER + "(: .*)?$");
    private static final Pattern PIECE = Pattern.compile("(?ms)^```java\n(.*?)^```$");

    public static void main(String[] args) throws Exception {
        String page = Files.readString(Path.of("README.md"));
        runPieces(pieces(page));
        everyCallIsShown(page);
        everyTestIsNamed(page);
        C.finish();
    }

    /** The examples of a new object each, then the functions that they use. */
    private static List<String> pieces(String page) {
        List<String> pieces = new ArrayList<>();
        Matcher m = PIECE.matcher(page);
        while (m.find()) {
            pieces.add(m.group(1));
        }
        C.part("pieces");
        C.due("by calls, the functions, by a text", pieces.size(), 3);
        return pieces;
    }

    private static void runPieces(List<String> pieces) throws Exception {
        StringBuilder code = new StringBuilder("public final class Shown {\n");
        List<String> examples = new ArrayList<>();
        for (String piece : pieces) {
            if (piece.startsWith("static ")) {
                code.append(piece);
            } else {
                String name = "example" + examples.size();
                examples.add(name);
                code.append("public static void ").append(name).append("() {\n")
                    .append(withQuestions(piece)).append("}\n");
            }
        }
        Path made = Files.createTempDirectory("readme");
        try {
            compile(made, code.append("}\n").toString());
            run(made, examples);
        } finally {
            remove(made);
        }
    }

    private static String withQuestions(String piece) {
        StringBuilder code = new StringBuilder();
        for (String line : piece.split("\n")) {
            Matcher m = ASKED.matcher(line);
            if (!m.matches()) {
                C.due("an answer that the test can read: " + line, line.contains("//"), false);
                code.append(line).append('\n');
                continue;
            }
            String call = m.group(3);
            String answer = m.group(4);
            String told = "\"" + call.replace("\"", "'") + "\"";
            if (answer.startsWith("NoSuch")) {
                code.append("try { ").append(call).append("; ReadmeTests.answered(").append(told)
                    .append(", 0, 1); } catch (java.util.").append(answer)
                    .append(" e) { ReadmeTests.answered(").append(told).append(", 1, 1); }\n");
                continue;
            }
            String got = call;
            if (m.group(2) != null) {
                code.append(m.group(1)).append(call).append(";\n");
                got = m.group(2).substring("int ".length());
            }
            code.append("ReadmeTests.answered(").append(told).append(", ").append(got)
                .append(", ").append(answer).append(");\n");
        }
        return code.toString();
    }

    public static void answered(String call, int got, int want) {
        C.due(call, got, want);
    }

    public static void answered(String call, boolean got, boolean want) {
        C.due(call, got, want);
    }

    private static void compile(Path made, String code) throws Exception {
        Path file = made.resolve("Shown.java");
        Files.writeString(file, code);
        int exit = ToolProvider.getSystemJavaCompiler().run(null, null, null, "-cp",
            System.getProperty("java.class.path"), "-d", made.toString(), file.toString());
        C.due("javac of the page's pieces", exit, 0);
    }

    private static void run(Path made, List<String> examples) throws Exception {
        try (URLClassLoader loader = new URLClassLoader(new URL[] {made.toUri().toURL()})) {
            Class<?> shown = loader.loadClass("Shown");
            for (String example : examples) {
                C.part(example);
                try {
                    shown.getMethod(example).invoke(null);
                } catch (InvocationTargetException e) {
                    C.holds("no throw but where it is shown: " + e.getCause(), false);
                }
            }
        }
    }

    private static void remove(Path made) throws Exception {
        try (Stream<Path> all = Files.walk(made)) {
            for (Path one : all.sorted(Comparator.reverseOrder()).toList()) {
                Files.delete(one);
            }
        }
    }

    private static void everyCallIsShown(String page) {
        C.part("calls");
        for (Method call : WhereFound.class.getDeclaredMethods()) {
            if (Modifier.isPublic(call.getModifiers())) {
                C.holds(call.getName() + " is shown", page.contains("x." + call.getName() + "("));
            }
        }
    }

    private static void everyTestIsNamed(String page) {
        C.part("tests");
        TreeSet<String> named = new TreeSet<>();
        Matcher m = Pattern.compile("`(\\w+Tests)`").matcher(page);
        while (m.find()) {
            named.add(m.group(1));
        }
        TreeSet<String> there = new TreeSet<>();
        String[] files = Path.of("src/test/java").toFile().list();
        for (String file : files == null ? new String[0] : files) {
            if (file.endsWith("Tests.java")) {
                there.add(file.replace(".java", ""));
            }
        }
        C.due("named tests", named.toString(), there.toString());
    }
}
