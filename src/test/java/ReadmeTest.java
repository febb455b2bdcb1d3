import java.io.IOException;
import java.lang.reflect.Method;
import java.lang.reflect.Modifier;
import java.nio.file.Files;
import java.nio.file.Path;
import java.util.Arrays;
import java.util.List;
import java.util.Set;
import java.util.TreeSet;
import java.util.regex.Matcher;
import java.util.regex.Pattern;
import java.util.stream.Collectors;
import java.util.stream.Stream;

/** README.md says what is so: the answers in its example, the calls, the constants and the tests. */
public final class ReadmeTest {
    /** A line of the example: the call, its arguments, and the answer behind it. */
    private static final Pattern CALL = Pattern.compile("banks\\.(\\w+)\\((.*?)\\); +// (-?\\d+)(:.*)?");
    private static final Pattern CALL_IN_TABLE = Pattern.compile("\\| `(\\w+)\\((.*?)\\)` \\|.*");
    private static final Pattern TEST_IN_TABLE = Pattern.compile("\\| `(\\w+Test)` \\|.*");
    private static final Checks checks = new Checks();

    public static void main(String[] args) throws IOException, ReflectiveOperationException {
        List<String> lines = Files.readAllLines(Path.of("README.md"));
        answersOfTheExample(lines);
        callsOfTheFace(lines);
        constants(String.join("\n", lines));
        testsOfTheProject(lines);
        checks.finish();
    }

    private static void answersOfTheExample(List<String> lines) throws ReflectiveOperationException {
        int first = lines.indexOf("```java") + 1;
        List<String> example = lines.subList(first, lines.size());
        example = example.subList(0, example.indexOf("```"));
        checks.same("the first line", example.get(0), "SampledBanks banks = new SampledBanks();");
        SampledBanks banks = new SampledBanks();
        for (String line : example.subList(1, example.size())) {
            Matcher call = CALL.matcher(line);
            if (call.matches()) {
                checks.due(line, answer(banks, call.group(1), call.group(2)), Long.parseLong(call.group(3)));
            } else {
                checks.holds("a call and its answer: " + line, false);
            }
        }
    }

    private static long answer(SampledBanks banks, String name, String arguments)
            throws ReflectiveOperationException {
        Object[] values = Arrays.stream(arguments.split(", *"))
                .filter(text -> !text.isEmpty()).map(Integer::valueOf).toArray();
        Class<?>[] types = new Class<?>[values.length];
        Arrays.fill(types, int.class);
        return ((Number) SampledBanks.class.getMethod(name, types).invoke(banks, values)).longValue();
    }

    private static void callsOfTheFace(List<String> lines) {
        Set<String> face = new TreeSet<>();
        for (Method method : SampledBanks.class.getDeclaredMethods()) {
            if (Modifier.isPublic(method.getModifiers())) {
                face.add(method.getName() + " of " + method.getParameterCount());
            }
        }
        Set<String> told = new TreeSet<>();
        for (String line : lines) {
            Matcher call = CALL_IN_TABLE.matcher(line);
            if (call.matches()) {
                String arguments = call.group(2);
                told.add(call.group(1) + " of " + (arguments.isEmpty() ? 0 : arguments.split(",").length));
            }
        }
        checks.same("the calls in the table", told, face);
    }

    private static void constants(String text) {
        checks.holds("BAD", text.contains("`BAD` (" + SampledBanks.BAD + ")"));
        checks.holds("NONE", text.contains("`NONE` (" + SampledBanks.NONE + ")"));
        checks.holds("FULL", text.contains("`FULL` (" + SampledBanks.FULL + ")"));
        checks.holds("FAILED", text.contains("`FAILED` (" + SampledBanks.FAILED + ")"));
    }

    private static void testsOfTheProject(List<String> lines) throws IOException {
        Set<String> told = lines.stream().map(TEST_IN_TABLE::matcher).filter(Matcher::matches)
                .map(test -> test.group(1)).collect(Collectors.toCollection(TreeSet::new));
        try (Stream<Path> files = Files.list(Path.of("src/test/java"))) {
            Set<String> there = files.map(file -> file.getFileName().toString())
                    .filter(name -> name.endsWith("Test.java"))
                    .map(name -> name.substring(0, name.length() - ".java".length()))
                    .collect(Collectors.toCollection(TreeSet::new));
            checks.same("the tests in the table", told, there);
        }
    }
}
