/**
 * Simulates deterministic distributed colouring by the Cole-Vishkin method on a graph
 * of at most 24 nodes, each of which has at most one parent.
 *
 * Sets of nodes are held as the bits of an int, and all rows are made with the object,
 * so no call makes anything new.
 */
public final class ColourReduction {
    public static final int NO_SUCH_NODE = -1;
    public static final int BAD_VALUE = -2;
    public static final int DUPLICATE = -3;
    public static final int FULL = -4;
    public static final int NOT_PROPER = -5;
    public static final int NO_FREE_COLOUR = -6;
    public static final int NONE = -7;

    private static final int MOST_NODES = 24;
    private static final int GREATEST_VALUE = 65535;
    private static final int MOST_ROUNDS_AGO = 16;

    // The present, the past, and a spare row: a round that turns out to be impossible
    // has written to the spare row alone, so the oldest past is still whole.
    private static final int ROWS = MOST_ROUNDS_AGO + 2;

    // Rounds give the colours 0, 1 and 2 away; eliminations begin above them.
    private static final int FINAL_COLOURS = 3;

    // Reductions alone are sure to come down to this colour, and not further.
    private static final int GREATEST_REDUCED = 5;

    // Colours of 16 bits need four reductions at most; the bound only shows the loop's end.
    private static final int MOST_REDUCTIONS = 16;

    private final int[] identifiers = new int[MOST_NODES];
    private final int[] parents = new int[MOST_NODES];
    private final int[][] rows = new int[ROWS][MOST_NODES];
    private int[] colours = rows[0];
    private int present = 0;
    private int nodes = 0;
    private int rounds = 0;

    public ColourReduction() {
    }

    // ---- graph

    public int addNode(int identifier) {
        if (!isValue(identifier)) {
            return BAD_VALUE;
        }
        if (isIdentifierTaken(identifier)) {
            return DUPLICATE;
        }
        if (nodes >= MOST_NODES) {
            return FULL;
        }
        int node = nodes;
        nodes++;
        identifiers[node] = identifier;
        parents[node] = NONE;
        colours[node] = identifier;
        startCount();
        return node;
    }

    public int setParent(int node, int parent) {
        if (!isNode(node) || !isNode(parent)) {
            return NO_SUCH_NODE;
        }
        if (node == parent) {
            return BAD_VALUE;
        }
        return replaceParent(node, parent);
    }

    public int removeParent(int node) {
        if (!isNode(node)) {
            return NO_SUCH_NODE;
        }
        return replaceParent(node, NONE);
    }

    public int parent(int node) {
        if (!isNode(node)) {
            return NO_SUCH_NODE;
        }
        return parents[node];
    }

    public int degree(int node) {
        if (!isNode(node)) {
            return NO_SUCH_NODE;
        }
        return Integer.bitCount(neighbours(node));
    }

    public int depth(int node) {
        if (!isNode(node)) {
            return NO_SUCH_NODE;
        }
        int at = node;
        for (int steps = 0; steps < nodes; steps++) {
            if (isRoot(at)) {
                return steps;
            }
            at = parents[at];
        }
        return NONE;
    }

    public int cycleLength(int node) {
        if (!isNode(node)) {
            return NO_SUCH_NODE;
        }
        int at = node;
        for (int steps = 1; steps <= nodes; steps++) {
            if (isRoot(at)) {
                return NONE;
            }
            at = parents[at];
            if (at == node) {
                return steps;
            }
        }
        return NONE;
    }

    public int partCount() {
        int parts = 0;
        int seen = 0;
        for (int node = 0; node < nodes; node++) {
            if (!isIn(seen, node)) {
                seen |= part(node);
                parts++;
            }
        }
        return parts;
    }

    // ---- colours

    public int colour(int node) {
        if (!isNode(node)) {
            return NO_SUCH_NODE;
        }
        return colours[node];
    }

    public int setColour(int node, int colour) {
        if (!isNode(node)) {
            return NO_SUCH_NODE;
        }
        if (!isValue(colour)) {
            return BAD_VALUE;
        }
        int previous = colours[node];
        colours[node] = colour;
        startCount();
        return previous;
    }

    public int resetColours() {
        int changed = 0;
        for (int node = 0; node < nodes; node++) {
            if (colours[node] != identifiers[node]) {
                colours[node] = identifiers[node];
                changed++;
            }
        }
        startCount();
        return changed;
    }

    public int recolour(int node) {
        if (!isNode(node)) {
            return NO_SUCH_NODE;
        }
        // Fewer neighbours than nodes, so one of as many colours as nodes is free.
        colours[node] = lowestFreeColour(node, nodes);
        startCount();
        return colours[node];
    }

    public int colourCount() {
        int count = 0;
        for (int node = 0; node < nodes; node++) {
            if (isFirstOfItsColour(node)) {
                count++;
            }
        }
        return count;
    }

    public int greatestColour() {
        int greatest = NONE;
        for (int node = 0; node < nodes; node++) {
            greatest = Math.max(greatest, colours[node]);
        }
        return greatest;
    }

    public int conflictCount() {
        int conflicts = 0;
        for (int node = 0; node < nodes; node++) {
            if (isInConflict(node)) {
                conflicts++;
            }
        }
        return conflicts;
    }

    public int differingBit(int node) {
        if (!isNode(node)) {
            return NO_SUCH_NODE;
        }
        if (isInConflict(node)) {
            return NOT_PROPER;
        }
        return reductionBit(node);
    }

    // ---- rounds

    public int reduce() {
        if (!isProper()) {
            return NOT_PROPER;
        }
        doReduction();
        return greatestColour();
    }

    public int shift() {
        return doShift();
    }

    public int eliminate(int colour) {
        if (colour < FINAL_COLOURS || !isValue(colour)) {
            return BAD_VALUE;
        }
        if (!isProper()) {
            return NOT_PROPER;
        }
        return doElimination(colour);
    }

    public int reduceToThree() {
        if (!isProper()) {
            return NOT_PROPER;
        }
        int before = rounds;
        for (int i = 0; i < MOST_REDUCTIONS && greatestColour() > GREATEST_REDUCED; i++) {
            doReduction();
        }
        for (int colour = GREATEST_REDUCED; colour >= FINAL_COLOURS; colour--) {
            // After a shift the children of a node all have one colour, so with its parent
            // at most two of three colours are taken: the elimination can't be refused.
            doShift();
            doElimination(colour);
        }
        return rounds - before;
    }

    public int roundCount() {
        return rounds;
    }

    public int pastColour(int node, int roundsAgo) {
        if (!isNode(node)) {
            return NO_SUCH_NODE;
        }
        if (roundsAgo < 0 || roundsAgo > MOST_ROUNDS_AGO) {
            return BAD_VALUE;
        }
        if (roundsAgo > rounds) {
            return NONE;
        }
        int row = present - roundsAgo;
        return rows[row < 0 ? row + ROWS : row][node];
    }

    // ---- independent sets

    public int inIndependentSet(int node) {
        if (!isNode(node)) {
            return NO_SUCH_NODE;
        }
        if (!isProper()) {
            return NOT_PROPER;
        }
        return isIn(independentSet(), node) ? 1 : 0;
    }

    public int independentSetSize() {
        if (!isProper()) {
            return NOT_PROPER;
        }
        return Integer.bitCount(independentSet());
    }

    public int greatestIndependentSet(int node) {
        if (!isNode(node)) {
            return NO_SUCH_NODE;
        }
        int left = part(node);
        int size = 0;
        for (int i = 0; i < nodes && left != 0; i++) {
            int end = nodeAtAnEnd(left);
            if (end == NONE) {
                // A part has at most one cycle, so what has no end is that cycle alone.
                return size + Integer.bitCount(left) / 2;
            }
            // Some greatest set holds the end: its only neighbour can be exchanged for it.
            left &= ~(neighbours(end) | 1 << end);
            size++;
        }
        return size;
    }

    // ---- help for the graph

    private boolean isNode(int number) {
        return number >= 0 && number < nodes;
    }

    private static boolean isValue(int number) {
        return number >= 0 && number <= GREATEST_VALUE;
    }

    private boolean isIdentifierTaken(int identifier) {
        for (int node = 0; node < nodes; node++) {
            if (identifiers[node] == identifier) {
                return true;
            }
        }
        return false;
    }

    private boolean isRoot(int node) {
        return !isNode(parents[node]);
    }

    private int replaceParent(int node, int parent) {
        int previous = parents[node];
        parents[node] = parent;
        startCount();
        return previous;
    }

    private static boolean isIn(int set, int node) {
        return (set >> node & 1) == 1;
    }

    private boolean areNeighbours(int node, int other) {
        return parents[node] == other || parents[other] == node;
    }

    private int neighbours(int node) {
        int set = 0;
        for (int other = 0; other < nodes; other++) {
            if (areNeighbours(node, other)) {
                set |= 1 << other;
            }
        }
        return set;
    }

    private int part(int node) {
        int part = 1 << node;
        for (int i = 0; i < nodes; i++) {
            int wider = widened(part);
            if (wider == part) {
                return part;
            }
            part = wider;
        }
        return part;
    }

    private int widened(int set) {
        int wider = set;
        for (int node = 0; node < nodes; node++) {
            if (!isRoot(node) && (isIn(wider, node) || isIn(wider, parents[node]))) {
                wider |= 1 << node | 1 << parents[node];
            }
        }
        return wider;
    }

    // ---- help for the colours

    private boolean isProper() {
        return conflictCount() == 0;
    }

    private boolean isInConflict(int node) {
        return !isRoot(node) && colours[node] == colours[parents[node]];
    }

    private boolean isFirstOfItsColour(int node) {
        for (int earlier = 0; earlier < node; earlier++) {
            if (colours[earlier] == colours[node]) {
                return false;
            }
        }
        return true;
    }

    private boolean hasNeighbourOfColour(int node, int colour) {
        for (int other = 0; other < nodes; other++) {
            if (colours[other] == colour && areNeighbours(node, other)) {
                return true;
            }
        }
        return false;
    }

    private int lowestFreeColour(int node, int limit) {
        for (int colour = 0; colour < limit; colour++) {
            if (!hasNeighbourOfColour(node, colour)) {
                return colour;
            }
        }
        return NONE;
    }

    private int reductionBit(int node) {
        if (isRoot(node)) {
            return 0;
        }
        return Integer.numberOfTrailingZeros(colours[node] ^ colours[parents[node]]);
    }

    // ---- help for the rounds

    private void startCount() {
        rounds = 0;
    }

    private int rowAfterPresent() {
        return present + 1 < ROWS ? present + 1 : 0;
    }

    private void endRound() {
        present = rowAfterPresent();
        colours = rows[present];
        rounds++;
    }

    private void doReduction() {
        int[] next = rows[rowAfterPresent()];
        for (int node = 0; node < nodes; node++) {
            int bit = reductionBit(node);
            next[node] = 2 * bit + (colours[node] >> bit & 1);
        }
        endRound();
    }

    private int doShift() {
        int[] next = rows[rowAfterPresent()];
        int changed = 0;
        for (int node = 0; node < nodes; node++) {
            next[node] = shiftedColour(node);
            if (next[node] != colours[node]) {
                changed++;
            }
        }
        endRound();
        return changed;
    }

    private int shiftedColour(int node) {
        if (!isRoot(node)) {
            return colours[parents[node]];
        }
        return colours[node] == 0 ? 1 : 0;
    }

    private int doElimination(int colour) {
        int[] next = rows[rowAfterPresent()];
        int eliminated = 0;
        for (int node = 0; node < nodes; node++) {
            next[node] = colours[node];
            if (colours[node] == colour) {
                next[node] = lowestFreeColour(node, FINAL_COLOURS);
                if (next[node] == NONE) {
                    return NO_FREE_COLOUR;
                }
                eliminated++;
            }
        }
        endRound();
        return eliminated;
    }

    // ---- help for the independent sets

    private int independentSet() {
        int set = 0;
        int visited = 0;
        for (int i = 0; i < nodes; i++) {
            int node = nextToVisit(visited);
            if (node == NONE) {
                return set;
            }
            visited |= 1 << node;
            if ((neighbours(node) & set) == 0) {
                set |= 1 << node;
            }
        }
        return set;
    }

    private int nextToVisit(int visited) {
        int next = NONE;
        for (int node = 0; node < nodes; node++) {
            if (!isIn(visited, node) && (next == NONE || colours[node] < colours[next])) {
                next = node;
            }
        }
        return next;
    }

    private int nodeAtAnEnd(int left) {
        for (int node = 0; node < nodes; node++) {
            if (isIn(left, node) && Integer.bitCount(neighbours(node) & left) <= 1) {
                return node;
            }
        }
        return NONE;
    }
}
