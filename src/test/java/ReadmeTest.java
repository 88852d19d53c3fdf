import java.io.IOException;
import java.io.UncheckedIOException;
import java.lang.reflect.Method;
import java.lang.reflect.Modifier;
import java.nio.file.DirectoryStream;
import java.nio.file.Files;
import java.nio.file.Path;
import java.util.ArrayList;
import java.util.List;

/** README.md says how to use the class and how to run its tests: that it keeps up with both. */
public final class ReadmeTest {
    private static final Path TESTS = Path.of("src", "test", "java");
    private static final List<String> PAGE = lines(Path.of("README.md"));

    public static void main(String[] args) {
        everyCallIsInTheTable();
        everyTestIsInATable();
        everyHelperIsNamed();
        theExampleIsTheOneThatIsTested();
        Due.is("how the tests are run", PAGE.contains("    bash .ci/run"), true);
        Due.finish("ReadmeTest");
    }

    private static List<String> lines(Path path) {
        try {
            return Files.readAllLines(path);
        } catch (IOException e) {
            throw new UncheckedIOException(e);
        }
    }

    private static boolean hasLineFrom(String begin) {
        return PAGE.stream().anyMatch(line -> line.startsWith(begin));
    }

    private static void everyCallIsInTheTable() {
        for (Method m : AddressNamer.class.getDeclaredMethods()) {
            if (Modifier.isPublic(m.getModifiers())) {
                Due.is("the call " + m.getName(), hasLineFrom("| `" + m.getName() + "("), true);
            }
        }
    }

    private static void everyTestIsInATable() {
        for (String name : sources()) {
            if (name.endsWith("Test")) {
                Due.is("the test " + name, hasLineFrom("| `" + name + "` |"), true);
            }
        }
    }

    private static void everyHelperIsNamed() {
        String page = String.join("\n", PAGE);
        for (String name : sources()) {
            Due.is("the file " + name, page.contains("`" + name + "`"), true);
        }
    }

    private static List<String> sources() {
        List<String> names = new ArrayList<>();
        try (DirectoryStream<Path> found = Files.newDirectoryStream(TESTS, "*.java")) {
            for (Path p : found) {
                names.add(p.getFileName().toString().replace(".java", ""));
            }
        } catch (IOException e) {
            throw new UncheckedIOException(e);
        }
        return names;
    }

    /** The first code of the page stands in ExampleTest, four signs further to the right. */
    private static void theExampleIsTheOneThatIsTested() {
        int begin = PAGE.indexOf("```java") + 1;
        List<String> behind = PAGE.subList(begin, PAGE.size());
        StringBuilder example = new StringBuilder();
        for (String line : behind.subList(0, behind.indexOf("```"))) {
            example.append(line.isEmpty() ? "" : "    ").append(line).append('\n');
        }
        String tested = String.join("\n", lines(TESTS.resolve("ExampleTest.java")));
        Due.is("the example has lines", example.length() > 100, true);
        Due.is("the example is tested", tested.contains(example), true);
    }
}
