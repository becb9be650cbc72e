import java.io.IOException;
import java.lang.reflect.Constructor;
import java.lang.reflect.Field;
import java.lang.reflect.Method;
import java.lang.reflect.Modifier;
import java.nio.file.Files;
import java.nio.file.Path;
import java.util.List;
import java.util.Map;
import java.util.TreeMap;
import java.util.TreeSet;
import java.util.regex.Matcher;
import java.util.regex.Pattern;

/** The public face of the document, and rules of the language that can be seen from outside. */
public final class FaceTest {
    private static final Path SOURCE = Path.of("src/main/java/ColourReduction.java");

    private static final Map<String, Integer> CONSTANTS = Map.of(
            "NO_SUCH_NODE", -1, "BAD_VALUE", -2, "DUPLICATE", -3, "FULL", -4,
            "NOT_PROPER", -5, "NO_FREE_COLOUR", -6, "NONE", -7);

    private static final String[] METHODS = {
        "addNode 1", "setParent 2", "removeParent 1", "parent 1", "degree 1", "depth 1",
        "cycleLength 1", "partCount 0", "colour 1", "setColour 2", "resetColours 0", "recolour 1",
        "colourCount 0", "greatestColour 0", "conflictCount 0", "differingBit 1", "reduce 0",
        "shift 0", "eliminate 1", "reduceToThree 0", "roundCount 0", "pastColour 2",
        "inIndependentSet 1", "independentSetSize 0", "greatestIndependentSet 1"};

    private static final Due due = new Due();

    public static void main(String[] args) throws IOException, IllegalAccessException {
        theClass();
        constants();
        methods();
        words();
        methodLengths();
        due.end();
    }

    private static void yes(String what, boolean holds) {
        due.is(what, holds ? 1 : 0, 1);
    }

    private static void theClass() {
        int modifiers = ColourReduction.class.getModifiers();
        yes("the class is public and final", Modifier.isPublic(modifiers) && Modifier.isFinal(modifiers));
        Constructor<?>[] constructors = ColourReduction.class.getDeclaredConstructors();
        due.is("constructors", constructors.length, 1);
        yes("a public constructor without parameters",
                Modifier.isPublic(constructors[0].getModifiers()) && constructors[0].getParameterCount() == 0);
    }

    private static void constants() throws IllegalAccessException {
        Map<String, Integer> found = new TreeMap<>();
        for (Field field : ColourReduction.class.getDeclaredFields()) {
            int modifiers = field.getModifiers();
            if (Modifier.isPublic(modifiers)) {
                yes(field + " is an int constant", Modifier.isStatic(modifiers)
                        && Modifier.isFinal(modifiers) && field.getType() == int.class);
                found.put(field.getName(), field.getInt(null));
            } else {
                yes(field + " is private", Modifier.isPrivate(modifiers));
                yes(field + " is final if static", !Modifier.isStatic(modifiers) || Modifier.isFinal(modifiers));
            }
        }
        yes("constants " + found, found.equals(CONSTANTS));
    }

    private static void methods() {
        TreeSet<String> found = new TreeSet<>();
        TreeSet<String> hidden = new TreeSet<>();
        TreeSet<String> names = new TreeSet<>();
        for (Method method : ColourReduction.class.getDeclaredMethods()) {
            if (Modifier.isPublic(method.getModifiers())) {
                yes(method + " takes and answers int", method.getReturnType() == int.class
                        && List.of(method.getParameterTypes()).stream().allMatch(t -> t == int.class));
                yes(method + " belongs to an object", !Modifier.isStatic(method.getModifiers()));
                found.add(method.getName() + " " + method.getParameterCount());
                names.add(method.getName());
            } else {
                yes(method + " is private", Modifier.isPrivate(method.getModifiers()));
                hidden.add(method.getName());
            }
        }
        yes("methods " + found, found.equals(new TreeSet<>(List.of(METHODS))));
        names.retainAll(hidden);
        due.is("private methods with a public name " + names, names.size(), 0);
    }

    private static String withoutComments() throws IOException {
        String text = Files.readString(SOURCE);
        return text.replaceAll("(?s)/\\*.*?\\*/", "").replaceAll("//[^\n]*", "");
    }

    private static void words() throws IOException {
        String text = withoutComments();
        String[] refused = {"throw", "try", "catch", "synchronized", "assert", "import", "package",
            "protected", "System.nanoTime", "System.currentTimeMillis", "Random", "->", "::"};
        for (String word : refused) {
            String edge = Character.isLetter(word.charAt(0)) ? "\\b" : "";
            Matcher matcher = Pattern.compile(edge + Pattern.quote(word) + edge).matcher(text);
            yes("no " + word + " in the class", !matcher.find());
        }
        yes("no function whose name ends in Exact", !Pattern.compile("Exact\\b").matcher(text).find());
        Matcher made = Pattern.compile("\\bnew\\b").matcher(text);
        while (made.find()) {
            yes("what is made is made with the object", text.lastIndexOf('{', made.start())
                    == text.indexOf('{'));
        }
    }

    private static void methodLengths() throws IOException {
        Matcher matcher = Pattern.compile("(?ms)^    (?:public|private) [^;=]*?\\{\n(.*?)^    }$")
                .matcher(withoutComments());
        int methods = 0;
        while (matcher.find()) {
            methods++;
            yes("a method of at most 40 lines: " + matcher.group(), matcher.group().lines().count() <= 40);
        }
        yes("methods were found", methods > METHODS.length);
    }
}
