import java.io.IOException;
import java.lang.reflect.Field;
import java.lang.reflect.Method;
import java.lang.reflect.Modifier;
import java.nio.file.DirectoryStream;
import java.nio.file.Files;
import java.nio.file.Path;
import java.util.Set;
import java.util.TreeSet;
import java.util.regex.Matcher;
import java.util.regex.Pattern;

/** Whether the calls that README.md shows answer as it says, and whether its tables say all and nothing else. */
public final class ReadmeTest {
    private static final Path README = Path.of("README.md");
    private static final Path TESTS = Path.of("src/test/java");
    private static final String MAKING = "PrintSpooler x = new PrintSpooler();";
    private static final Pattern BLOCK = Pattern.compile("(?ms)^```java$(.*?)^```$");
    /** A call, its answer, and the name of the constant that the answer is, if one is given. */
    private static final Pattern CALL = Pattern.compile("x\\.(\\w+)\\(([^()]*)\\); +// (-?\\d+)(?:, ([A-Z_]+)\\b)?.*");
    private static final Pattern CONSTANT_ROW = Pattern.compile("(?m)^\\| `([A-Z_]+)` \\| (-?\\d+) \\|");
    private static final Pattern METHOD_ROW = Pattern.compile("(?m)^\\| `(\\w+)\\(([^()]*)\\)` \\|");
    private static final Pattern TEST_NAME = Pattern.compile("`(\\w+Test)`");

    private final Check check = new Check();
    private PrintSpooler x = null;
    private int calls = 0;

    public static void main(String[] args) throws ReflectiveOperationException, IOException {
        String readme = Files.readString(README);
        ReadmeTest test = new ReadmeTest();
        test.calls(readme);
        test.constants(readme);
        test.methods(readme);
        test.tests(readme);
        test.check.due("README.md says 512 calls", readme.contains("at most 512 calls") ? 1 : 0, 1);
        test.check.end();
    }

    private void calls(String readme) throws ReflectiveOperationException {
        Matcher block = BLOCK.matcher(readme);
        while (block.find()) {
            for (String line : block.group(1).split("\n")) {
                if (!line.isBlank() && !line.startsWith("//")) {
                    line(line);
                }
            }
        }
        check.due("README.md shows a run of calls", Math.min(20, calls), 20);
    }

    private void line(String line) throws ReflectiveOperationException {
        Matcher call = CALL.matcher(line);
        if (line.equals(MAKING)) {
            x = new PrintSpooler();
        } else if (x == null || !call.matches()) {
            check.due(line, "no call with its answer on a new object", "one");
        } else {
            calls++;
            int answer = Integer.parseInt(call.group(3));
            check.due(line, answerOf(call.group(1), call.group(2)), answer);
            if (call.group(4) != null) {
                check.due(line + " names a constant that", constant(call.group(4)), answer);
            }
        }
    }

    private int answerOf(String name, String list) throws ReflectiveOperationException {
        String[] words = list.isEmpty() ? new String[0] : list.split(", ");
        Class<?>[] types = new Class<?>[words.length];
        Object[] values = new Object[words.length];
        for (int i = 0; i < words.length; i++) {
            types[i] = int.class;
            values[i] = value(words[i]);
        }
        return (int) PrintSpooler.class.getMethod(name, types).invoke(x, values);
    }

    /** An argument: a sign in quotes, a constant or a number. */
    private static int value(String word) throws ReflectiveOperationException {
        if (word.matches("'.'")) {
            return word.charAt(1);
        }
        String prefix = "PrintSpooler.";
        return word.startsWith(prefix) ? constant(word.substring(prefix.length())) : Integer.parseInt(word);
    }

    private static int constant(String name) throws ReflectiveOperationException {
        return PrintSpooler.class.getField(name).getInt(null);
    }

    private void constants(String readme) throws ReflectiveOperationException {
        Set<String> face = new TreeSet<>();
        for (Field field : PrintSpooler.class.getFields()) {
            face.add(field.getName() + "=" + field.getInt(null));
        }
        Set<String> told = new TreeSet<>();
        Matcher row = CONSTANT_ROW.matcher(readme);
        while (row.find()) {
            told.add(row.group(1) + "=" + row.group(2));
        }
        check.due("the constants in README.md", told.toString(), face.toString());
    }

    private void methods(String readme) {
        Set<String> face = new TreeSet<>();
        for (Method method : PrintSpooler.class.getDeclaredMethods()) {
            if (Modifier.isPublic(method.getModifiers())) {
                face.add(method.getName() + "/" + method.getParameterCount());
            }
        }
        Set<String> told = new TreeSet<>();
        Matcher row = METHOD_ROW.matcher(readme);
        while (row.find()) {
            String parameters = row.group(2);
            told.add(row.group(1) + "/" + (parameters.isEmpty() ? 0 : parameters.split(", ").length));
        }
        check.due("the calls in README.md", told.toString(), face.toString());
    }

    private void tests(String readme) throws IOException {
        Set<String> there = new TreeSet<>();
        try (DirectoryStream<Path> files = Files.newDirectoryStream(TESTS, "*Test.java")) {
            for (Path file : files) {
                there.add(file.getFileName().toString().replace(".java", ""));
            }
        }
        Set<String> told = new TreeSet<>();
        Matcher name = TEST_NAME.matcher(readme);
        while (name.find()) {
            told.add(name.group(1));
        }
        check.due("the tests in README.md", told.toString(), there.toString());
    }
}
