import java.io.IOException;
import java.lang.reflect.Method;
import java.nio.file.Files;
import java.nio.file.Path;
import java.util.List;
import java.util.regex.Matcher;
import java.util.regex.Pattern;

/** The README's example, line by line: each call answers what stands behind it. Run from the project's folder. */
public final class ReadmeTest {
    private static final Pattern MADE = Pattern.compile("SevenInTheHay x = new SevenInTheHay\\(\\);");
    private static final Pattern FED = Pattern.compile("for \\(char c : \"([^\"]*)\"\\.toCharArray\\(\\)\\) x\\.feed\\(c\\);");
    private static final Pattern CALL = Pattern.compile("x\\.(\\w+)\\(([-0-9, ]*)\\); +// (-?\\d+): .+");

    private ReadmeTest() { }

    public static void main(String[] args) throws IOException, ReflectiveOperationException {
        String all = Files.readString(Path.of("README.md"));
        SevenInTheHay x = new SevenInTheHay();
        int calls = 0;
        for (String line : example(all)) {
            Matcher call = CALL.matcher(line), fed = FED.matcher(line);
            if (call.matches()) {
                Check.due(line, answer(x, call.group(1), call.group(2)), Long.parseLong(call.group(3)));
                calls++;
            } else if (fed.matches()) {
                Check.feed(x, fed.group(1));
            } else {
                Check.isTrue("a line of the example can be read: " + line, MADE.matcher(line).matches());
            }
        }
        Check.isTrue("the example has calls", calls > 10);
        Check.isTrue("it tells of 512 calls", all.contains("512 calls"));
        Check.isTrue("it tells how the tests are run", all.contains(".ci/run"));
        tests(all);
        Check.end();
    }

    private static List<String> example(String all) {
        String head = "```java\n";
        int start = all.indexOf(head), end = all.indexOf("\n```", start + 1);
        Check.isTrue("there is an example", start >= 0 && end > start);
        return all.substring(start + head.length(), end).lines().toList();
    }

    private static long answer(SevenInTheHay x, String name, String numbers) throws ReflectiveOperationException {
        String[] told = numbers.isBlank() ? new String[0] : numbers.split(", ");
        Class<?>[] types = new Class<?>[told.length];
        Object[] values = new Object[told.length];
        for (int i = 0; i < told.length; i++) {
            types[i] = int.class;
            values[i] = Integer.valueOf(told[i]);
        }
        Method method = SevenInTheHay.class.getMethod(name, types);
        return ((Number) method.invoke(x, values)).longValue();
    }

    // A test that the README does not tell of is one that it has missed.
    private static void tests(String all) throws IOException {
        try (var files = Files.list(Path.of("src/test/java"))) {
            for (Path file : files.toList()) {
                String name = file.getFileName().toString().replace(".java", "");
                Check.isTrue("README.md tells of " + name, !name.endsWith("Test") || all.contains("`" + name + "`"));
            }
        }
    }
}
