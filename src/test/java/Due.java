import java.lang.reflect.InvocationTargetException;
import java.lang.reflect.Method;
import java.util.ArrayList;
import java.util.Arrays;
import java.util.Comparator;
import java.util.List;
import java.util.function.Supplier;
import java.util.function.ToIntBiFunction;
import java.util.function.ToIntFunction;

/** Compares answers with those that are due, and ends a test with exit code 1 if one was wrong. */
final class Due {
    private static final int[] NEVER_NODES = {
        Integer.MIN_VALUE, -65536, -32, -7, -1, 24, 25, 32, 64, 65536, Integer.MAX_VALUE};

    private String test = "";
    private int checked = 0;
    private int wrong = 0;

    /** Runs each test of a class: the static methods that take a Due. */
    static void run(Class<?> tests) {
        Due due = new Due();
        for (Method method : testsOf(tests)) {
            due.runOne(method);
        }
        due.end();
    }

    static List<Method> testsOf(Class<?> tests) {
        List<Method> found = new ArrayList<>();
        for (Method method : tests.getDeclaredMethods()) {
            if (Arrays.equals(method.getParameterTypes(), new Class<?>[] {Due.class})) {
                found.add(method);
            }
        }
        found.sort(Comparator.comparing(Method::getName));
        return found;
    }

    private void runOne(Method method) {
        test = method.getName() + ": ";
        int before = checked;
        try {
            method.invoke(null, this);
            is("answers that were looked at, if any", checked > before ? 1 : 0, 1);
        } catch (InvocationTargetException thrown) {
            wrong("threw " + thrown.getCause());
        } catch (IllegalAccessException refused) {
            wrong("can't be run: " + refused);
        }
    }

    private void wrong(String what) {
        wrong++;
        System.out.println(test + what);
    }

    void is(String call, long got, long want) {
        checked++;
        if (got != want) {
            wrong(call + " answered " + got + ", due is " + want);
        }
    }

    void colours(String when, ColourReduction x, int... want) {
        for (int i = 0; i < want.length; i++) {
            is(when + ": colour(" + i + ")", x.colour(i), want[i]);
        }
    }

    /** The call answers an error, and the object goes on like one that was not called. */
    void refused(Supplier<ColourReduction> made, String call, ToIntFunction<ColourReduction> act, int want) {
        ColourReduction called = made.get();
        is(call, act.applyAsInt(called), want);
        checked++;
        List<String> got = state(called);
        List<String> due = state(made.get());
        if (!got.equals(due)) {
            got.removeAll(due);
            wrong(call + " is an error and changed " + got);
        }
    }

    /** For no number that isn't a node's, in an empty, a small and a full graph. */
    void noSuchNode(String method, ToIntBiFunction<ColourReduction, Integer> act) {
        for (int count : new int[] {0, 5, 24}) {
            for (int node : NEVER_NODES) {
                refused(() -> Made.turned(count), method + " of node " + node + " among " + count,
                        x -> act.applyAsInt(x, node), -1);
            }
            refused(() -> Made.turned(count), method + " of the next node after " + count,
                    x -> act.applyAsInt(x, count), -1);
        }
    }

    /** The call succeeds, and then there are no rounds and no past, until a round is done. */
    void startsACount(Supplier<ColourReduction> made, String call, ToIntFunction<ColourReduction> act, int want) {
        ColourReduction x = made.get();
        is("roundCount() before " + call, x.roundCount(), Made.TURNS);
        is(call, act.applyAsInt(x), want);
        is("roundCount() after " + call, x.roundCount(), 0);
        for (int node = 0; x.colour(node) >= 0; node++) {
            is("pastColour(" + node + ", 0) after " + call, x.pastColour(node, 0), x.colour(node));
            is("pastColour(" + node + ", 1) after " + call, x.pastColour(node, 1), -7);
        }
        int colour = x.colour(0);
        x.shift();
        is("roundCount() a round after " + call, x.roundCount(), 1);
        is("pastColour(0, 1) a round after " + call, x.pastColour(0, 1), colour);
        is("pastColour(0, 2) a round after " + call, x.pastColour(0, 2), -7);
    }

    /** All that can be told of an object from outside, and at last its identifiers. */
    private static List<String> state(ColourReduction x) {
        List<String> told = new ArrayList<>();
        told.add("roundCount() = " + x.roundCount());
        for (int ago = 0; ago <= 16; ago++) {
            told.add("pastColour(0, " + ago + ") = " + x.pastColour(0, ago));
        }
        for (int node = 0; node < 24; node++) {
            told.add("parent(" + node + ") = " + x.parent(node));
            told.add("colour(" + node + ") = " + x.colour(node));
            told.add("pastColour(" + node + ", 1) = " + x.pastColour(node, 1));
            told.add("pastColour(" + node + ", 16) = " + x.pastColour(node, 16));
        }
        x.resetColours();
        for (int node = 0; node < 24; node++) {
            told.add("identifier of " + node + " = " + x.colour(node));
        }
        return told;
    }

    void end() {
        System.out.println(checked + " answers looked at, " + wrong + " wrong");
        if (wrong != 0 || checked == 0) {
            System.exit(1);
        }
    }
}
