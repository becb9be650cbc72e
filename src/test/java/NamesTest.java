import java.io.IOException;
import java.lang.reflect.Method;
import java.nio.file.Files;
import java.nio.file.Path;
import java.util.TreeSet;
import java.util.regex.Matcher;
import java.util.regex.Pattern;

/** Every promise has tests, each with the promise's number in its name and words of the document. */
public final class NamesTest {
    private static final Path DOCUMENT = Path.of("../shared/DOC.md");
    private static final Pattern NAME = Pattern.compile("promise(\\d\\d)_\\w+");
    private static final int PROMISES = 26;

    private static final Due due = new Due();
    private static final TreeSet<Integer> found = new TreeSet<>();

    public static void main(String[] args) throws IOException {
        String document = Files.readString(DOCUMENT);
        look(document, GraphTest.class, 1, 9);
        look(document, ColoursTest.class, 10, 17);
        look(document, RoundsTest.class, 18, 23);
        look(document, IndependentSetsTest.class, 24, 26);
        for (int promise = 1; promise <= PROMISES; promise++) {
            yes("promise " + promise + " has a test", found.contains(promise));
        }
        due.end();
    }

    private static void look(String document, Class<?> tests, int first, int last) {
        for (Method method : Due.testsOf(tests)) {
            Matcher name = NAME.matcher(method.getName());
            int promise = name.matches() ? Integer.parseInt(name.group(1)) : 0;
            yes(method.getName() + " belongs to " + tests.getName(), promise >= first && promise <= last);
            found.add(promise);
            Says says = method.getAnnotation(Says.class);
            yes(method.getName() + " has words of the document",
                    says != null && document.contains(says.value()));
        }
    }

    private static void yes(String what, boolean holds) {
        due.is(what, holds ? 1 : 0, 1);
    }
}
