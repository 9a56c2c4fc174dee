import java.io.IOException;
import java.nio.file.Files;
import java.nio.file.Path;
import java.util.regex.Matcher;
import java.util.regex.Pattern;

/** Rules of LANGUAGE.md that can be seen in the words of the source. */
public final class LanguageTest {
    private static final Path SOURCE = Path.of("src/main/java/PrintSpooler.java");
    /** A rule's number, and what it leaves no place for. */
    private static final String[][] FORBIDDEN = {
        {"1", "\\bpackage\\b"}, {"1", "\\bprotected\\b"},
        {"1", "\\bpublic\\b(?! (final class PrintSpooler|PrintSpooler\\(|int \\w+\\(|static final int [A-Z_]+ =))"},
        {"2", "(?<!\\b(case|default)\\b.{0,60})->"}, {"2", "::"}, {"2", "\\bnew \\w+(<\\w*>)?\\([^()]*\\) \\{"},
        {"3", "\\bvar\\b"}, {"3", "\\bObject\\b"}, {"3", "\\[\\]\\[\\]\\["},
        {"4", "\\bimport (?!java\\.util\\.(ArrayList|List|Arrays|Iterator);)"}, {"4", "\\bSystem\\.(?!arraycopy\\b)"},
        {"4", "\\bArrays\\.(?!(copyOf|copyOfRange|fill)\\b)"}, {"4", "Exact\\b"}, {"4", "\\bMath\\.(random|sqrt|pow)\\b"},
        {"5", "\\bstatic\\s*\\{"}, {"5", "\\bstatic (?!final\\b)[\\w<>\\[\\], ]+ \\w+( =|;)"},
        {"6", "\\b(throw|throws|try|catch|finally|synchronized|assert)\\b"}, {"6", "\\bhashCode\\b"},
        {"13", "\\b(Thread|Random|Runtime|ProcessBuilder|Files?|Socket|LocalDate|Instant)\\b"}};

    public static void main(String[] args) throws IOException {
        Check check = new Check();
        String source = Files.readString(SOURCE);
        String code = source.replaceAll("(?s)/\\*.*?\\*/", "").replaceAll("//[^\n]*", "");
        for (String[] rule : FORBIDDEN) {
            Matcher found = Pattern.compile(rule[1]).matcher(code);
            check.due("rule " + rule[0] + ": a place with " + rule[1], found.find() ? found.group() : "", "");
        }
        Matcher inside = Pattern.compile("(?m)^ +([a-z ]*)\\bclass \\w+").matcher(code);
        int classes = 1;
        while (inside.find()) {
            classes++;
            check.due("rule 2: a class inside is static", inside.group(1).contains("static") ? 1 : 0, 1);
        }
        check.due("rule 11: classes, at most 12", Math.max(12, classes), 12);
        methods(check, source.split("\n"));
        check.due("rule 3: signs beyond ASCII", source.chars().filter(c -> c > 126).count(), 0);
        check.end();
    }

    private static void methods(Check check, String[] lines) {
        int begin = 0;
        for (int i = 0; i < lines.length; i++) {
            if (lines[i].matches("( {4}| {8})[a-zA-Z].*\\(.*\\{") && !lines[i].contains("class")) {
                begin = i;
                int parameters = lines[i].split(",").length;
                check.due("rule 11: seven parameters at most: " + lines[i], Math.max(7, parameters), 7);
            }
            if (lines[i].matches("( {4}| {8})\\}") && !lines[begin].contains("class")) {
                check.due("rule 11: a long method: " + lines[begin], Math.max(60, i - begin + 1), 60);
                begin = i;
            }
        }
    }
}
