import java.io.IOException;
import java.nio.charset.StandardCharsets;
import java.nio.file.Files;
import java.nio.file.Path;
import java.util.ArrayList;
import java.util.List;
import java.util.regex.Matcher;
import java.util.regex.Pattern;
import java.util.stream.Stream;

/** Every sentence of the document is named by a test (Check.sentence): a sentence that has none is told here. */
public final class DocumentTest {
    private static final Path DOCUMENT = Path.of("../shared/DOC.md");
    private static final Path TESTS = Path.of("src/test/java");
    private static final String LITERAL = "\"((?:[^\"\\\\]|\\\\.)*)\"";
    private static final Pattern NAMED = Pattern.compile("Check\\.sentence\\(((?:[\\s+]*" + LITERAL + ")+)\\)");

    private DocumentTest() {
    }

    public static void main(String[] args) throws IOException {
        String sentences = sentencesOfTheDocument();
        boolean[] isNamed = new boolean[sentences.length()];
        List<String> named = namedByTests();
        for (String words : named) {
            int at = sentences.indexOf(words);
            Check.same("the place of: " + words, at >= 0, (Object) true);
            for (int k = Math.max(at, 0); k < at + words.length(); k++) {
                isNamed[k] = true;
            }
        }
        Check.same("there are many", named.size() > 100, (Object) true);
        Check.same("what no test names", rest(sentences, isNamed), "");
        Check.end();
    }

    /**
     * Without titles, the face and the signatures, which LanguageTest compares, and without the last section, which
     * says what is not promised.
     */
    private static String sentencesOfTheDocument() throws IOException {
        String text = Files.readString(DOCUMENT, StandardCharsets.UTF_8);
        text = text.substring(0, text.indexOf("## Not promised"));
        text = text.replaceAll("(?s)```java.*?```", "").replaceAll("(?m)^#.*$", "");
        text = text.replaceAll("(?m)^[A-Z][a-z ]+:$", "").replaceAll("(?m)^`[^`]*\\([^`]*`:", "");
        return text.replaceAll("\\s+", " ");
    }

    private static List<String> namedByTests() throws IOException {
        List<String> named = new ArrayList<>();
        try (Stream<Path> files = Files.list(TESTS)) {
            for (Path file : files.sorted().toList()) {
                Matcher m = NAMED.matcher(Files.readString(file, StandardCharsets.UTF_8));
                while (m.find()) {
                    named.add(joined(m.group(1)));
                }
            }
        }
        return named;
    }

    private static String joined(String literals) {
        StringBuilder words = new StringBuilder();
        Matcher m = Pattern.compile(LITERAL).matcher(literals);
        while (m.find()) {
            words.append(m.group(1).replace("\\\"", "\""));
        }
        return words.toString();
    }

    /** The words that are left, signs alone (and the fences of a text) aside. */
    private static String rest(String sentences, boolean[] isNamed) {
        StringBuilder left = new StringBuilder();
        for (int k = 0; k < isNamed.length; k++) {
            left.append(isNamed[k] ? '\n' : sentences.charAt(k));
        }
        StringBuilder rest = new StringBuilder();
        for (String part : left.toString().split("\n+")) {
            if (part.replace("```text", "").matches(".*[A-Za-z0-9].*")) {
                rest.append(part).append('\n');
            }
        }
        return rest.toString();
    }
}
