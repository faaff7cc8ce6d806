import java.io.IOException;
import java.nio.file.DirectoryStream;
import java.nio.file.Files;
import java.nio.file.Path;
import java.util.LinkedHashMap;
import java.util.Map;
import java.util.regex.Matcher;
import java.util.regex.Pattern;

// Compares what the tests say they hold with ../shared/DOC.md: each sentence that a test quotes stands there, and all of it
// is quoted by a test (but for 'The public face', which FaceTest reads by itself).
public final class SentenceTest extends Check {
    private static final Path DOCUMENT = Path.of("../shared/DOC.md");
    private static final Pattern QUOTE = Pattern.compile("@Holds\\(\"((?:[^\"\\\\]|\\\\.)*)\"\\)");
    private static final Pattern UNQUOTED = Pattern.compile("[\\u0001]*[A-Za-z0-9][^\\u0001]*");

    public static void main(String[] args) throws IOException {
        if (!Files.exists(DOCUMENT)) {
            System.out.println("no document here to compare with");
            return;
        }
        Map<String, String> sections = sections();
        Map<String, char[]> left = new LinkedHashMap<>();
        sections.forEach((heading, text) -> left.put(heading, text.toCharArray()));
        try (DirectoryStream<Path> tests = Files.newDirectoryStream(Path.of("src/test/java"), "*.java")) {
            for (Path test : tests) {
                Matcher found = QUOTE.matcher(Files.readString(test));
                while (found.find()) {
                    strike(found.group(1).replace("\\\"", "\""), sections, left);
                }
            }
        }
        for (int promise = 1; promise <= 25; promise++) {
            allQuoted("Promise " + promise, left);
        }
        allQuoted("Terms", left);
        allQuoted("What it is", left);
        allQuoted("Not promised", left);
        finish();
    }

    /** The document's sections by their headings, blanks made one, without signs of layout and the calls' signatures. */
    private static Map<String, String> sections() throws IOException {
        Map<String, String> sections = new LinkedHashMap<>();
        for (String part : Files.readString(DOCUMENT).split("\n## ")) {
            int end = part.indexOf('\n') < 0 ? part.length() : part.indexOf('\n');
            String heading = part.substring(0, end).replaceAll("^(Promise \\d+):.*", "$1").strip();
            String text = part.substring(end).replaceAll("```\\w*", " ").replaceAll("======== ", " ").replaceAll("`[^`]*`:", " ");
            sections.put(heading, " " + text.replaceAll("\\s+", " ").strip() + " ");
        }
        return sections;
    }

    private static void strike(String quoted, Map<String, String> sections, Map<String, char[]> left) {
        int colon = quoted.indexOf(": ");
        String text = sections.getOrDefault(quoted.substring(0, colon), "");
        String sentence = quoted.substring(colon + 2);
        int at = text.indexOf(sentence);
        due("a place in the document of " + quoted, 1, at >= 0 ? 1 : 0);
        for (; at >= 0; at = text.indexOf(sentence, at + 1)) {
            for (int i = 0; i < sentence.length(); i++) {
                left.get(quoted.substring(0, colon))[at + i] = '\1';
            }
        }
    }

    private static void allQuoted(String heading, Map<String, char[]> left) {
        due("a section of the document called " + heading, 1, left.containsKey(heading) ? 1 : 0);
        Matcher found = UNQUOTED.matcher(new String(left.getOrDefault(heading, new char[0])));
        while (found.find()) {
            due("tests of what " + heading + " says: " + found.group().replace("\1", ""), 1, 0);
        }
    }
}
