import java.io.IOException;
import java.nio.file.DirectoryStream;
import java.nio.file.Files;
import java.nio.file.Path;
import java.util.Map;
import java.util.TreeMap;
import java.util.regex.Matcher;
import java.util.regex.Pattern;

/**
 * Whether each sentence of the document has checks: the sentences that tests quote with says() must stand in the
 * document, and together they must be all of it but headings, names without a rule, and the examples and constants,
 * which ExamplesTest and FaceTest take whole.
 */
public final class SentenceTest {
    private static final Path DOCUMENT = Path.of("../shared/DOC.md");
    private static final Path TESTS = Path.of("src/test/java");
    private static final String LITERALS = "\"(?:[^\"\\\\]|\\\\.)*\"(?:\\s*\\+\\s*\"(?:[^\"\\\\]|\\\\.)*\")*";
    private static final Pattern CALL = Pattern.compile("\\bsays\\((\\d+),\\s*(" + LITERALS + "|[A-Z_]+)\\)");

    public static void main(String[] args) throws IOException {
        if (!Files.exists(DOCUMENT)) {
            System.out.println("there is no document to look the sentences up in");
            return;
        }
        Check check = new Check();
        Map<Integer, String> left = sections(Files.readString(DOCUMENT));
        check.due("sections of the document", left.size(), 38);
        Map<Integer, String> whole = new TreeMap<>(left);
        try (DirectoryStream<Path> files = Files.newDirectoryStream(TESTS, "*Test.java")) {
            for (Path file : files) {
                strike(check, whole, left, file);
            }
        }
        for (int section : left.keySet()) {
            String rest = left.get(section).replaceAll("[# ]+", " ").strip();
            check.due("what no test quotes of section " + section, rest, "");
        }
        check.end();
    }

    /** The Description (0) and the promises, each in one line, without what needs no checks. */
    private static Map<Integer, String> sections(String document) {
        Map<Integer, String> sections = new TreeMap<>();
        Matcher heading = Pattern.compile("(?ms)^## (Description|Promise (\\d+):[^\n]*)$(.*?)(?=^## )").matcher(document);
        while (heading.find()) {
            int number = heading.group(2) == null ? 0 : Integer.parseInt(heading.group(2));
            String body = heading.group(3);
            body = body.replaceAll("(?s)Examples: Each of them.*", "");
            body = body.replaceAll("(?m)^[A-Z ]+\\.$", "");
            body = body.replaceAll("(?m)^`(int )?\\w+\\([^)]*\\)`$", "");
            body = body.replaceAll("(?m)^---- .*$", "");
            sections.put(number, oneLine(body.replaceAll("(?m)^- ", "")));
        }
        return sections;
    }

    private static String oneLine(String text) {
        return text.replaceAll("\\s+", " ");
    }

    /** Puts "#" in place of the sentences that a test quotes. */
    private static void strike(Check check, Map<Integer, String> whole, Map<Integer, String> left, Path file)
            throws IOException {
        String source = Files.readString(file);
        Matcher call = CALL.matcher(source);
        while (call.find()) {
            int section = Integer.parseInt(call.group(1));
            String quoted = oneLine(value(source, call.group(2)));
            boolean stands = whole.containsKey(section) && !quoted.isEmpty() && whole.get(section).contains(quoted);
            check.due(file.getFileName() + " quotes of section " + section + ": " + quoted, stands ? 1 : 0, 1);
            if (stands) {
                left.put(section, left.get(section).replace(quoted, "#"));
            }
        }
    }

    /** What literals, or a constant of the file, say. */
    private static String value(String source, String words) {
        String literals = words;
        if (!words.startsWith("\"")) {
            Matcher constant = Pattern.compile("String " + words + " =\\s*(" + LITERALS + ");").matcher(source);
            literals = constant.find() ? constant.group(1) : "\"\"";
        }
        String joined = literals.replaceAll("\"\\s*\\+\\s*\"", "");
        return joined.substring(1, joined.length() - 1).replace("\\\"", "\"").replace("\\\\", "\\");
    }
}
