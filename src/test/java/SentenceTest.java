import java.io.IOException;
import java.nio.file.Files;
import java.nio.file.Path;
import java.util.ArrayList;
import java.util.List;
import java.util.Map;
import java.util.TreeMap;
import java.util.regex.Matcher;
import java.util.regex.Pattern;
import java.util.stream.Stream;

/** Each word of the document's terms and promises is quoted by a test, and what tests quote stands in the document. */
public final class SentenceTest {
    private static final Path DOCUMENT = Path.of("../shared/DOC.md");
    private static final Path TESTS = Path.of("src/test/java");
    private static final Pattern QUOTE = Pattern.compile("Check\\.sentence\\(\"((?:[^\"\\\\]|\\\\.)*)\"\\)");

    private SentenceTest() {
    }

    public static void main(String[] args) throws IOException {
        if (!Files.exists(DOCUMENT)) {
            System.out.println("SentenceTest: there is no document to look at");
            return;
        }
        String document = Files.readString(DOCUMENT);
        Map<String, String> parts = parts(document);
        Check.due("the document's parts", parts.size(), 50);
        List<String> quotes = quotes();
        for (String quote : quotes) {
            Check.due("the document has <" + quote + ">", foundIn(parts, quote), true);
        }
        for (Map.Entry<String, String> part : parts.entrySet()) {
            Check.due(part.getKey() + " has words without a test:", unquoted(part.getValue(), quotes), "");
        }
        Check.end("SentenceTest");
    }

    /** The terms, and each promise without its heading and the line that it is declared by. */
    private static Map<String, String> parts(String document) {
        Map<String, String> parts = new TreeMap<>();
        Matcher use = Pattern.compile("\\n(An object is used [^\\n]*)\\n").matcher(document);
        if (use.find()) {
            parts.put("What it is", plain(use.group(1)));
        }
        int terms = document.indexOf("## Terms");
        int calls = document.indexOf("Ahead of the calls");
        String told = document.substring(terms + "## Terms".length(), calls);
        parts.put("Terms", plain(told.replaceAll("```(text)?", " ").replaceAll("==== \\d+\\.", " ")));
        Matcher promise = Pattern.compile("## (Promise \\d+): .*\\n\\s*`[^`]*`: ([^\\n]*)\\n").matcher(document);
        while (promise.find()) {
            parts.put(promise.group(1), plain(promise.group(2)));
        }
        return parts;
    }

    private static String plain(String text) {
        return text.replaceAll("\\s+", " ").trim();
    }

    private static List<String> quotes() throws IOException {
        List<String> quotes = new ArrayList<>();
        try (Stream<Path> files = Files.list(TESTS)) {
            for (Path file : (Iterable<Path>) files.sorted()::iterator) {
                String joined = Files.readString(file).replaceAll("\"\\s*\\+\\s*\"", "");
                Matcher quote = QUOTE.matcher(joined);
                while (quote.find()) {
                    quotes.add(quote.group(1));
                }
            }
        }
        return quotes;
    }

    private static boolean foundIn(Map<String, String> parts, String quote) {
        for (String part : parts.values()) {
            if (part.contains(quote)) {
                return true;
            }
        }
        return false;
    }

    /** What of a part no quote covers, but for signs. */
    private static String unquoted(String part, List<String> quotes) {
        boolean[] covered = new boolean[part.length()];
        for (String quote : quotes) {
            for (int at = part.indexOf(quote); at >= 0; at = part.indexOf(quote, at + 1)) {
                for (int i = 0; i < quote.length(); i++) {
                    covered[at + i] = true;
                }
            }
        }
        StringBuilder left = new StringBuilder();
        for (int i = 0; i < part.length(); i++) {
            if (!covered[i] && Character.isLetterOrDigit(part.charAt(i))) {
                left.append(part.charAt(i));
            } else if (left.length() > 0 && left.charAt(left.length() - 1) != ' ') {
                left.append(' ');
            }
        }
        return left.toString().trim();
    }
}
