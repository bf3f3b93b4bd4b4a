import java.io.IOException;
import java.lang.reflect.Method;
import java.lang.reflect.Modifier;
import java.net.URL;
import java.net.URLClassLoader;
import java.nio.file.Files;
import java.nio.file.Path;
import java.util.ArrayList;
import java.util.List;
import java.util.regex.Matcher;
import java.util.regex.Pattern;
import java.util.stream.Stream;
import javax.tools.JavaCompiler;
import javax.tools.ToolProvider;

/** What README.md's example says that a call answers is what it answers; the example and the tables have every call. */
public final class ReadmeTest {
    private static final Path README = Path.of("README.md");
    private static final Pattern BLOCK = Pattern.compile("```java\\n(.*?)```", Pattern.DOTALL);
    // a call, and behind it what it answers
    private static final Pattern TOLD =
        Pattern.compile("^((?:x\\.\\w+|tell)\\(.*\\)); +// (-?\\d+|true|false|throws \\w+)(?=$|[ ,:]).*$");
    private static final Pattern ROW = Pattern.compile("^\\| `(\\w+)\\(([^)]*)\\)` \\|", Pattern.MULTILINE);

    private ReadmeTest() {
    }

    public static void main(String[] args) throws Exception {
        String page = Files.readString(README);
        List<String> calls = new ArrayList<>();
        List<String> due = new ArrayList<>();
        String program = program(page, calls, due);
        example(program, calls, due);
        callsToldAndUsed(page, program);
        lines(page);
        tests(page);
        Check.end("ReadmeTest");
    }

    /** The page's example as a class: methods as they are, and statements whose answers are written down. */
    private static String program(String page, List<String> calls, List<String> due) {
        StringBuilder methods = new StringBuilder();
        StringBuilder body = new StringBuilder();
        Matcher block = BLOCK.matcher(page);
        while (block.find()) {
            if (block.group(1).startsWith("static ")) {
                methods.append(block.group(1));
                continue;
            }
            for (String line : block.group(1).split("\n")) {
                Matcher told = TOLD.matcher(line);
                if (told.matches()) {
                    calls.add(told.group(1));
                    due.add(told.group(2));
                    body.append(written(told.group(1), told.group(2).startsWith("throws ")));
                } else {
                    Check.due("README.md: <" + line + "> says what it answers", line.contains("//"), false);
                    body.append(line).append('\n');
                }
            }
        }
        return "import java.nio.charset.StandardCharsets;\npublic final class Example {\n" + methods
            + "public static java.util.List<String> answers() {\n"
            + "java.util.List<String> answers = new java.util.ArrayList<>();\n" + body + "return answers;\n}\n}\n";
    }

    /** A statement that writes down what a call answers; one that is due to throw may have no answer at all. */
    private static String written(String call, boolean throwing) {
        String made = throwing ? call + "; answers.add(\"nothing\");" : "answers.add(String.valueOf(" + call + "));";
        return "try { " + made + " } catch (RuntimeException e) {"
            + " answers.add(\"throws \" + e.getClass().getSimpleName()); }\n";
    }

    private static void example(String program, List<String> calls, List<String> due) throws Exception {
        Path place = Files.createTempDirectory("readme");
        try {
            Path source = Files.writeString(place.resolve("Example.java"), program);
            JavaCompiler compiler = ToolProvider.getSystemJavaCompiler();
            String path = System.getProperty("java.class.path");
            int code = compiler.run(null, null, null, "-cp", path, "-d", place.toString(), source.toString());
            Check.due("README.md's example compiles", code, 0);
            if (code == 0) {
                compare(place, calls, due);
            }
        } finally {
            remove(place);
        }
    }

    private static void compare(Path place, List<String> calls, List<String> due) throws Exception {
        try (URLClassLoader loader = new URLClassLoader(new URL[] {place.toUri().toURL()})) {
            List<?> answers = (List<?>) loader.loadClass("Example").getMethod("answers").invoke(null);
            Check.due("README.md's answers", answers.size(), due.size());
            for (int i = 0; i < answers.size() && i < due.size(); i++) {
                Check.due("README.md's " + calls.get(i), String.valueOf(answers.get(i)), due.get(i));
            }
        }
    }

    private static void remove(Path place) throws IOException {
        try (Stream<Path> files = Files.list(place)) {
            for (Path file : (Iterable<Path>) files::iterator) {
                Files.delete(file);
            }
        }
        Files.delete(place);
    }

    private static void callsToldAndUsed(String page, String program) {
        for (Method m : LitNextDoor.class.getDeclaredMethods()) {
            if (Modifier.isPublic(m.getModifiers())) {
                Check.due("README.md's example uses " + m.getName(), program.contains("x." + m.getName() + "("), true);
                Check.due("how often README.md's tables have " + m, rows(page, m), 1);
            }
        }
    }

    private static int rows(String page, Method m) {
        int many = 0;
        Matcher row = ROW.matcher(page);
        while (row.find()) {
            int given = row.group(2).isEmpty() ? 0 : row.group(2).split(",").length;
            many += row.group(1).equals(m.getName()) && given == m.getParameterCount() ? 1 : 0;
        }
        return many;
    }

    /** The lines that the page shows can stand in a text. */
    private static void lines(String page) {
        String[] words = {"rooms", "pane", "lamp", "want", "hole", "burns", "hates", "dear"};
        StringBuilder text = new StringBuilder();
        for (String word : words) {
            Matcher row = Pattern.compile("^\\| `(" + word + " [^`]*)` \\|", Pattern.MULTILINE).matcher(page);
            Check.due("README.md shows a line of " + word, row.find(), true);
            text.append(row.group(1)).append(';');
        }
        Check.due("README.md's lines", Check.house(new LitNextDoor(), text.toString()), words.length);
    }

    /** The page tells each of the project's tests. */
    private static void tests(String page) throws IOException {
        try (Stream<Path> files = Files.list(Path.of("src/test/java"))) {
            for (Path file : (Iterable<Path>) files.sorted()::iterator) {
                String name = file.getFileName().toString().replace(".java", "");
                if (name.endsWith("Test")) {
                    Check.due("README.md tells of " + name, page.contains("`" + name + "`"), true);
                }
            }
        }
    }
}
