/** Compares answers with those that are due, and ends a test with exit code 1 if one was wrong. */
final class Due {
    private int checked = 0;
    private int wrong = 0;

    void is(String call, long got, long want) {
        checked++;
        if (got != want) {
            wrong++;
            System.out.println(call + " answered " + got + ", due is " + want);
        }
    }

    void end() {
        System.out.println(checked + " answers looked at, " + wrong + " wrong");
        if (wrong != 0 || checked == 0) {
            System.exit(1);
        }
    }

    /** A new object with a node for each identifier, in their order. */
    static ColourReduction nodes(int... identifiers) {
        ColourReduction x = new ColourReduction();
        for (int identifier : identifiers) {
            x.addNode(identifier);
        }
        return x;
    }

    /** A new object with nodes 0 to count - 1, each with its number as identifier. */
    static ColourReduction numbered(int count) {
        ColourReduction x = new ColourReduction();
        for (int i = 0; i < count; i++) {
            x.addNode(i);
        }
        return x;
    }

    /** Node i + 1 becomes a child of node i: node 0 is the root. */
    static ColourReduction path(int... identifiers) {
        ColourReduction x = nodes(identifiers);
        for (int i = 1; i < identifiers.length; i++) {
            x.setParent(i, i - 1);
        }
        return x;
    }

    /** The parent of node i is node i + 1, and node 0 is the parent of the last one. */
    static ColourReduction cycle(int... identifiers) {
        ColourReduction x = nodes(identifiers);
        for (int i = 0; i < identifiers.length; i++) {
            x.setParent(i, (i + 1) % identifiers.length);
        }
        return x;
    }

    void colours(String when, ColourReduction x, int... want) {
        for (int i = 0; i < want.length; i++) {
            is(when + ": colour(" + i + ")", x.colour(i), want[i]);
        }
    }
}
