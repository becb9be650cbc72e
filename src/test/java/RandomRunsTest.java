/** Long runs of made-up calls, each answered by the class and by the plain model. */
public final class RandomRunsTest {
    private static final int RUNS = 400;
    private static final int CALLS = 512;

    private static final int[] EXTREMES = {
        Integer.MIN_VALUE, Integer.MAX_VALUE, -65536, -7, -1, 23, 24, 25, 65535, 65536};

    private static final Due due = new Due();
    private static long seed = 20261118;

    public static void main(String[] args) {
        for (int run = 0; run < RUNS; run++) {
            new Run(run).go();
        }
        due.end();
    }

    private static int below(int bound) {
        seed = seed * 6364136223846793005L + 1442695040888963407L;
        return (int) ((seed >>> 33) % bound);
    }

    private static final class Run {
        private final ColourReduction x = new ColourReduction();
        private final PlainModel model = new PlainModel();
        private final StringBuilder told = new StringBuilder();
        private final int number;
        private final int nodes;
        private final int colours;
        private final int changesOfAHundred;

        Run(int number) {
            this.number = number;
            nodes = 1 + below(26);
            int[] ranges = {4, 7, 12, 40, 1000, 65536};
            colours = ranges[below(ranges.length)];
            changesOfAHundred = 2 + below(40);
        }

        void go() {
            for (int i = 0; i < nodes; i++) {
                addNode(below(4) == 0 ? below(Math.max(colours, 30)) : i * 2621);
            }
            for (int i = 0; i < nodes; i++) {
                if (below(8) > 0) setParent(i, below(3) == 0 ? (i + 1) % nodes : below(nodes));
            }
            for (int call = 2 * nodes; call < CALLS; call++) {
                if (below(100) < changesOfAHundred) change();
                else if (below(4) == 0) round();
                else ask();
            }
        }

        private int node() {
            return below(20) == 0 ? extreme() : below(nodes);
        }

        private int colour() {
            return below(20) == 0 ? extreme() : below(colours);
        }

        private int extreme() {
            return EXTREMES[below(EXTREMES.length)];
        }

        private void addNode(int identifier) {
            check("addNode(" + identifier + ")", x.addNode(identifier), model.addNode(identifier));
        }

        private void setParent(int node, int parent) {
            check("setParent(" + node + ", " + parent + ")",
                    x.setParent(node, parent), model.setParent(node, parent));
        }

        private void change() {
            int node = node();
            int colour = colour();
            switch (below(7)) {
                case 0 -> addNode(colour);
                case 1 -> setParent(node, node());
                case 2 -> check("removeParent(" + node + ")", x.removeParent(node), model.removeParent(node));
                case 3 -> check("setColour(" + node + ", " + colour + ")",
                        x.setColour(node, colour), model.setColour(node, colour));
                case 4 -> check("resetColours()", x.resetColours(), model.resetColours());
                default -> check("recolour(" + node + ")", x.recolour(node), model.recolour(node));
            }
        }

        private void round() {
            int colour = below(2) == 0 ? 2 + below(5) : below(3) > 0 ? model.colour(node()) : colour();
            switch (below(9)) {
                case 0, 1 -> check("reduce()", x.reduce(), model.reduce());
                case 2, 3 -> check("shift()", x.shift(), model.shift());
                case 4 -> check("reduceToThree()", x.reduceToThree(), model.reduceToThree());
                default -> check("eliminate(" + colour + ")", x.eliminate(colour), model.eliminate(colour));
            }
        }

        private void ask() {
            int node = node();
            int ago = below(20) == 0 ? extreme() : below(20) - 1;
            switch (below(16)) {
                case 0 -> check("parent(" + node + ")", x.parent(node), model.parent(node));
                case 1 -> check("degree(" + node + ")", x.degree(node), model.degree(node));
                case 2 -> check("depth(" + node + ")", x.depth(node), model.depth(node));
                case 3 -> check("cycleLength(" + node + ")", x.cycleLength(node), model.cycleLength(node));
                case 4 -> check("partCount()", x.partCount(), model.partCount());
                case 5 -> check("colour(" + node + ")", x.colour(node), model.colour(node));
                case 6 -> check("colourCount()", x.colourCount(), model.colourCount());
                case 7 -> check("greatestColour()", x.greatestColour(), model.greatestColour());
                case 8 -> check("conflictCount()", x.conflictCount(), model.conflictCount());
                case 9 -> check("differingBit(" + node + ")", x.differingBit(node), model.differingBit(node));
                case 10 -> check("roundCount()", x.roundCount(), model.roundCount());
                case 11 -> check("inIndependentSet(" + node + ")",
                        x.inIndependentSet(node), model.inIndependentSet(node));
                case 12 -> check("independentSetSize()", x.independentSetSize(), model.independentSetSize());
                case 13 -> check("greatestIndependentSet(" + node + ")",
                        x.greatestIndependentSet(node), model.greatestIndependentSet(node));
                default -> check("pastColour(" + node + ", " + ago + ")",
                        x.pastColour(node, ago), model.pastColour(node, ago));
            }
        }

        private void check(String call, int got, int want) {
            told.append("  ").append(call).append(" = ").append(got).append('\n');
            due.is("run " + number + ": " + call, got, want);
            if (got != want) {
                System.out.println("the whole run:\n" + told);
                due.end();
            }
        }
    }
}
