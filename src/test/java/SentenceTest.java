import java.io.IOException;
import java.nio.file.DirectoryStream;
import java.nio.file.Files;
import java.nio.file.Path;
import java.util.LinkedHashMap;
import java.util.Map;
import java.util.regex.Matcher;
import java.util.regex.Pattern;

/**
 * Holds the words that the tests say they are of (Due.says) against the document: each must stand in it
 * where the test says, and all of the document's terms and promises must be said by some test.
 */
public final class SentenceTest {
    private static final Pattern SAID = Pattern.compile("Due\\.says\\(\"([^\"]*)\",\\s*\"([^\"]*)\"\\)");
    private static final String CALLS = "An object is used for at most 512 calls";
    private static int wrong = 0;

    public static void main(String[] args) throws IOException {
        Map<String, String> parts = parts(Files.readString(Path.of("../shared/DOC.md")));
        Map<String, boolean[]> said = new LinkedHashMap<>();
        for (Map.Entry<String, String> part : parts.entrySet()) said.put(part.getKey(), new boolean[part.getValue().length()]);
        int sentences = 0;
        try (DirectoryStream<Path> tests = Files.newDirectoryStream(Path.of("src/test/java"), "*Test.java")) {
            for (Path test : tests) {
                Matcher m = SAID.matcher(Files.readString(test));
                while (m.find()) {
                    mark(test, parts.get(m.group(1)), said.get(m.group(1)), m.group(2));
                    sentences++;
                }
            }
        }
        for (Map.Entry<String, String> part : parts.entrySet()) tellUnsaid(part.getKey(), part.getValue(), said.get(part.getKey()));
        if (parts.size() != 49) complain("the document has " + parts.size() + " parts");
        System.out.println(wrong == 0 ? "the document's words have " + sentences + " tests" : wrong + " things are not as due");
        if (wrong != 0) System.exit(1);
    }

    private static void complain(String what) {
        wrong++;
        System.out.println(what);
    }

    /** The document's terms by section and its promises by number, all blanks single. */
    private static Map<String, String> parts(String document) {
        Map<String, String> parts = new LinkedHashMap<>();
        String part = null;
        for (String line : document.split("\n")) {
            Matcher head = Pattern.compile("## Promise (\\d+): .*|==== (\\d+)\\. (.*)|## .*").matcher(line);
            if (head.matches()) {
                part = head.group(1) != null ? "promise " + head.group(1) : head.group(2) != null ? "terms " + head.group(2) : null;
                line = head.group(3);
            }
            if (line != null && line.startsWith(CALLS)) part = "what it is";
            if (line != null && line.startsWith("What is refused")) part = "terms 8";
            if (part == null || line == null || line.startsWith("```")) continue;
            // the form of a call is the face's, and has a test there
            if (part.startsWith("promise")) line = line.replaceFirst("^`[^`]*`: ", "");
            parts.merge(part, line, (a, b) -> a + " " + b);
        }
        parts.replaceAll((name, text) -> text.replaceAll("\\s+", " ").trim());
        return parts;
    }

    private static void mark(Path test, String part, boolean[] said, String words) {
        int from = part == null ? -1 : part.indexOf(words);
        if (from < 0) {
            complain(test + " says what the document does not: " + words);
            return;
        }
        for (; from >= 0; from = part.indexOf(words, from + 1)) {
            for (int i = from; i < from + words.length(); i++) said[i] = true;
        }
    }

    private static void tellUnsaid(String name, String part, boolean[] said) {
        for (int i = 0; i < said.length; i++) {
            if (said[i] || !Character.isLetterOrDigit(part.charAt(i))) continue;
            int to = i;
            while (to < said.length && !said[to]) to++;
            complain(name + " has no test for: " + part.substring(i, to));
            i = to;
        }
    }
}
