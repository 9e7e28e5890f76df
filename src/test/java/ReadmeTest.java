import java.io.IOException;
import java.lang.reflect.InvocationTargetException;
import java.lang.reflect.Method;
import java.nio.file.Files;
import java.nio.file.Path;
import java.util.Set;
import java.util.TreeSet;
import java.util.regex.Matcher;
import java.util.regex.Pattern;
import java.util.stream.Collectors;
import java.util.stream.Stream;

/** README.md: each call that it shows answers what it says, and its table names each test. */
public final class ReadmeTest {
    private static final String NEW_OBJECT = "WhoCalls x = new WhoCalls();";
    private static final Pattern CALL = Pattern.compile("x\\.(\\w+)\\((.*)\\); +// (-?\\d+)(: .+)?");
    private static final Pattern ROW = Pattern.compile("\\| (\\w+Test) \\| .+ \\|");
    private static final Due due = new Due("ReadmeTest");

    private WhoCalls x = null;
    private int shown = 0;

    public static void main(String[] args) throws IOException, ReflectiveOperationException {
        Path root = Path.of(args.length == 0 ? "." : args[0]);
        String page = Files.readString(root.resolve("README.md"));
        new ReadmeTest().examples(page);
        tests(page, root.resolve("src/test/java"));
        due.holds("it tells of .ci/run, which can be run",
                page.contains(".ci/run") && Files.isExecutable(root.resolve(".ci/run")));
        due.end();
    }

    private void examples(String page) throws ReflectiveOperationException {
        boolean inside = false;
        for (String line : page.split("\n")) {
            if (line.startsWith("```")) {
                inside = line.equals("```java");
            } else if (inside) {
                example(line);
            }
        }
        due.holds("it shows refusals and calls that are taken", shown > 30);
    }

    private void example(String line) throws ReflectiveOperationException {
        if (line.equals(NEW_OBJECT)) {
            x = new WhoCalls();
        } else if (!line.isEmpty() && !line.startsWith("//")) {
            Matcher call = CALL.matcher(line);
            if (call.matches() && x != null) {
                shown++;
                due.is(line, asked(call.group(1), call.group(2)), Long.parseLong(call.group(3)));
            } else {
                due.holds("a line that shows a call and its answer: " + line, false);
            }
        }
    }

    private long asked(String name, String numbers) throws ReflectiveOperationException {
        String[] words = numbers.isEmpty() ? new String[0] : numbers.split(", ");
        Class<?>[] types = new Class<?>[words.length];
        Object[] arguments = new Object[words.length];
        for (int i = 0; i < words.length; i++) {
            types[i] = int.class;
            arguments[i] = number(words[i]);
        }
        Method method = WhoCalls.class.getMethod(name, types);
        try {
            return ((Number) method.invoke(x, arguments)).longValue();
        } catch (InvocationTargetException thrown) {
            due.holds(name + "(" + numbers + ") does not throw", false);
            return Long.MIN_VALUE;
        }
    }

    private static int number(String word) throws ReflectiveOperationException {
        if (word.startsWith("WhoCalls.")) {
            return WhoCalls.class.getField(word.substring("WhoCalls.".length())).getInt(null);
        }
        return word.startsWith("0b") ? Integer.parseInt(word.substring(2), 2) : Integer.parseInt(word);
    }

    private static void tests(String page, Path folder) throws IOException {
        Set<String> named = new TreeSet<>();
        for (String line : page.split("\n")) {
            Matcher row = ROW.matcher(line);
            if (row.matches()) {
                named.add(row.group(1));
            }
        }
        try (Stream<Path> files = Files.list(folder)) {
            Set<String> there = files.map(file -> file.getFileName().toString())
                    .filter(file -> file.endsWith("Test.java"))
                    .map(file -> file.substring(0, file.length() - ".java".length()))
                    .collect(Collectors.toCollection(TreeSet::new));
            due.holds("the tests that it names " + named + " are those that are there " + there, named.equals(there));
        }
    }
}
