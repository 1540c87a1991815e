import java.io.IOException;
import java.io.UncheckedIOException;
import java.lang.reflect.Method;
import java.lang.reflect.Modifier;
import java.nio.file.Files;
import java.nio.file.Path;
import java.util.List;
import java.util.Set;
import java.util.TreeSet;
import java.util.regex.Pattern;
import java.util.stream.Collectors;
import java.util.stream.Stream;

/** What README.md says of the class and of the tests is whole; .ci/run runs its example. */
public final class ReadmeTest {
    private static final Path TESTS = Path.of("src/test/java");
    private static final Pattern LINE_OF_A_LIST = Pattern.compile("(?m)^\\| `([^`]+)` \\|");
    private static final Pattern NAME_OF_A_TEST = Pattern.compile("(?m)^\\| (\\w+Test) \\|");

    private ReadmeTest() {
    }

    public static void main(String[] args) throws IOException {
        String readme = Files.readString(Path.of("README.md"));
        String example = between(readme, "```java\n", "\n```\n");
        exampleMakesEachCall(example);
        exampleHasEachLineOfAList(readme, example);
        eachTestIsNamed(readme);
        Checks.end("ReadmeTest");
    }

    private static String between(String text, String beginning, String end) {
        int from = text.indexOf(beginning) + beginning.length();
        int to = text.indexOf(end, from);
        Checks.due("README.md has an example", true, () -> from >= beginning.length() && to > from);
        return to > from ? text.substring(from, to) : "";
    }

    private static void exampleMakesEachCall(String example) {
        Checks.due("the example makes a trust", true, () -> example.contains("new TollTrustees()"));
        for (Method method : TollTrustees.class.getDeclaredMethods()) {
            if (Modifier.isPublic(method.getModifiers())) {
                String call = "trust." + method.getName() + "(";
                Checks.due("the example calls " + call, true, () -> example.contains(call));
            }
        }
    }

    private static void exampleHasEachLineOfAList(String readme, String example) {
        List<String> lines = found(LINE_OF_A_LIST, readme);
        Checks.due("the lines of a list that are told", 6, lines::size);
        for (String line : lines) {
            Checks.due("the example has: " + line, true, () -> example.contains(line + ";"));
        }
    }

    private static void eachTestIsNamed(String readme) {
        Set<String> named = new TreeSet<>(found(NAME_OF_A_TEST, readme));
        Checks.due("the tests that README.md names", tests(), () -> named);
    }

    private static Set<String> tests() {
        try (Stream<Path> files = Files.list(TESTS)) {
            return files.map(file -> file.getFileName().toString())
                    .filter(name -> name.endsWith("Test.java"))
                    .map(name -> name.replace(".java", ""))
                    .collect(Collectors.toCollection(TreeSet::new));
        } catch (IOException e) {
            throw new UncheckedIOException(e);
        }
    }

    private static List<String> found(Pattern pattern, String text) {
        return pattern.matcher(text).results().map(result -> result.group(1)).collect(Collectors.toList());
    }
}
