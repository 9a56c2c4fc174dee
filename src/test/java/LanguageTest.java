import java.io.IOException;
import java.nio.file.Files;
import java.nio.file.Path;
import java.util.regex.Matcher;
import java.util.regex.Pattern;

/** Rules of LANGUAGE.md that can be seen in the words of the source. */
public final class LanguageTest {
    private static final Path SOURCE = Path.of("src/main/java/PrintSpooler.java");

    public static void main(String[] args) throws IOException {
        Check check = new Check();
        String source = Files.readString(SOURCE);
        String code = source.replaceAll("(?s)/\\*.*?\\*/", "").replaceAll("//[^\n]*", "");
        String[] forbidden = {"\\bimport\\b", "\\bpackage\\b", "\\bthrow", "\\btry\\b", "\\bcatch\\b", "\\bfinally\\b",
            "\\bsynchronized\\b", "\\bassert\\b", "->", "::", "\\bString\\b", "\"", "\\bObject\\b", "\\bequals\\b",
            "\\bhashCode\\b", "\\btoString\\b", "\\bprotected\\b", "\\bThread\\b", "System\\.(?!arraycopy)",
            "Math\\.(?!min|max|abs)", "\\bvar\\b", "\\bdouble\\b", "\\bfloat\\b", "Exact\\b", "\\bstatic\\s*\\{"};
        for (String word : forbidden) {
            Matcher found = Pattern.compile(word).matcher(code);
            check.due("a place with " + word, found.find() ? found.group() : "", "");
        }
        Matcher inside = Pattern.compile("(?m)^ +(.*)\\bclass \\w+").matcher(code);
        while (inside.find()) {
            check.due("a class inside", inside.group(1).trim(), "private static final");
        }
        int begin = 0;
        String[] lines = source.split("\n");
        for (int i = 0; i < lines.length; i++) {
            if (lines[i].matches("( {4}| {8})[a-zA-Z].*\\(.*\\{") && !lines[i].contains("class")) {
                begin = i;
                check.due("more than seven parameters: " + lines[i], Math.max(7, lines[i].split(",").length), 7);
            }
            if (lines[i].matches("( {4}| {8})\\}") && !lines[begin].contains("class")) {
                check.due("a long method: " + lines[begin], Math.max(60, i - begin + 1), 60);
                begin = i;
            }
            check.due("a line with more than 120 characters", Math.max(120, lines[i].length()), 120);
            check.due("a sign beyond ASCII", lines[i].chars().allMatch(c -> c < 127) ? 1 : 0, 1);
        }
        check.end();
    }
}
