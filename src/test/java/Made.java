/** Objects made ready for a test. */
final class Made {
    /** How often the turned objects are shifted: more than the past that can be asked for. */
    static final int TURNS = 20;

    private Made() {
    }

    /** A new object with a node for each identifier, in their order. */
    static ColourReduction nodes(int... identifiers) {
        ColourReduction x = new ColourReduction();
        for (int identifier : identifiers) {
            x.addNode(identifier);
        }
        return x;
    }

    /** Node i + 1 becomes a child of node i: node 0 is the root. */
    static ColourReduction path(int... identifiers) {
        ColourReduction x = nodes(identifiers);
        for (int i = 1; i < identifiers.length; i++) {
            x.setParent(i, i - 1);
        }
        return x;
    }

    /** The parent of node i is node i + 1, and node 0 is the parent of the last one. */
    static ColourReduction cycle(int... identifiers) {
        ColourReduction x = nodes(identifiers);
        for (int i = 0; i < identifiers.length; i++) {
            x.setParent(i, (i + 1) % identifiers.length);
        }
        return x;
    }

    /** Node 0 is the parent of all others. */
    static ColourReduction star(int... identifiers) {
        ColourReduction x = nodes(identifiers);
        for (int i = 1; i < identifiers.length; i++) {
            x.setParent(i, 0);
        }
        return x;
    }

    /** As many identifiers, from the first one on. */
    static int[] from(int first, int count) {
        int[] identifiers = new int[count];
        for (int i = 0; i < count; i++) {
            identifiers[i] = first + i;
        }
        return identifiers;
    }

    /** A cycle with the identifiers 100, 101 and so on, whose colours were shifted. */
    static ColourReduction turned(int count) {
        return shifted(cycle(from(100, count)), TURNS);
    }

    /** The same, but node 1 was given the colour of node 0 before the shifts. */
    static ColourReduction turnedImproper(int count) {
        ColourReduction x = cycle(from(100, count));
        x.setColour(1, 100);
        return shifted(x, TURNS);
    }

    /** A path with the identifiers 100, 101 and so on, whose colours were shifted. */
    static ColourReduction turnedPath(int count) {
        return shifted(path(from(100, count)), TURNS);
    }

    static ColourReduction shifted(ColourReduction x, int rounds) {
        for (int round = 0; round < rounds; round++) {
            x.shift();
        }
        return x;
    }
}
