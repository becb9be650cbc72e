import java.io.File;
import java.io.IOException;
import java.lang.reflect.Field;
import java.lang.reflect.Method;
import java.lang.reflect.Modifier;
import java.nio.file.Files;
import java.nio.file.Path;
import java.util.regex.Matcher;
import java.util.regex.Pattern;

/** README.md tells of each constant, method and test, and its example prints what it says. */
public final class ReadmeTest {
    private static final Path README = Path.of("README.md");
    private static final File TESTS = new File("src/test/java");

    private static final Due due = new Due();

    public static void main(String[] args) throws IOException, InterruptedException, IllegalAccessException {
        String page = Files.readString(README);
        constants(page);
        methods(page);
        tests(page);
        example(page);
        due.end();
    }

    private static void has(String page, String words) {
        due.is("README.md has " + words, page.contains(words) ? 1 : 0, 1);
    }

    private static void constants(String page) throws IllegalAccessException {
        for (Field field : ColourReduction.class.getFields()) {
            has(page, "| `" + field.getName() + "` | " + field.getInt(null) + " |");
        }
    }

    private static void methods(String page) {
        for (Method method : ColourReduction.class.getDeclaredMethods()) {
            if (Modifier.isPublic(method.getModifiers())) {
                String[] parameters = {"\\(\\)", "\\(\\w+\\)", "\\(\\w+, \\w+\\)"};
                String row = "\\| `" + method.getName() + parameters[method.getParameterCount()] + "` \\|";
                due.is("README.md has a row for " + method.getName(),
                        Pattern.compile(row).matcher(page).results().count(), 1);
            }
        }
    }

    private static void tests(String page) {
        has(page, "\n.ci/run\n");
        String[] files = TESTS.list((directory, name) -> name.endsWith("Test.java"));
        due.is("tests were found", files != null && files.length > 0 ? 1 : 0, 1);
        for (String file : files) {
            has(page, "| `" + file.replace(".java", "") + "` |");
        }
    }

    private static void example(String page) throws IOException, InterruptedException {
        Path directory = Files.createTempDirectory("readme");
        Path source = directory.resolve("Example.java");
        Files.writeString(source, block(page, "java"));
        // The test's own class path holds the class, so the example needs no compiling of it.
        Process run = new ProcessBuilder(Path.of(System.getProperty("java.home"), "bin", "java").toString(),
                "-cp", System.getProperty("java.class.path"), source.toString())
                .redirectErrorStream(true).start();
        String printed = new String(run.getInputStream().readAllBytes()).replace("\r", "");
        due.is("exit code of the example", run.waitFor(), 0);
        boolean same = printed.equals(block(page, "text"));
        due.is("the example prints what README.md says" + (same ? "" : ", not\n" + printed), same ? 1 : 0, 1);
        Files.delete(source);
        Files.delete(directory);
    }

    private static String block(String page, String kind) {
        Matcher matcher = Pattern.compile("(?s)```" + kind + "\n(.*?)```").matcher(page);
        return matcher.find() ? matcher.group(1) : "";
    }
}
