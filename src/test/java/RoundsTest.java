/** Promises 18 to 23: the rounds and the past. */
public final class RoundsTest {
    private static final Due due = new Due();

    public static void main(String[] args) {
        reduce();
        reduceErrors();
        shift();
        shiftOfAnImproperColouring();
        eliminate();
        eliminateTakesColoursBeforeTheRound();
        eliminateErrorsInTheirOrder();
        reduceToThree();
        reduceToThreeNeedsReductions();
        reduceToThreeErrors();
        roundsWithoutNodes();
        roundsOfAFullGraph();
        pastColour();
        refusedEliminationKeepsTheWholePast();
        farMoreCallsThanPromised();
        due.end();
    }

    private static void reduce() {
        ColourReduction x = Due.path(65535, 32767, 0, 32768);
        due.is("reduce()", x.reduce(), 31);
        due.colours("reduce", x, 1, 30, 0, 31);
        due.is("reduce() again", x.reduce(), 2);
        due.colours("reduce again", x, 1, 0, 2, 1);
        ColourReduction two = Due.cycle(4, 6);
        due.is("reduce() of two parents of each other", two.reduce(), 3);
        due.colours("reduce of two", two, 2, 3);
        ColourReduction lone = Due.nodes(6);
        due.is("reduce() of a root", lone.reduce(), 0);
    }

    private static void reduceErrors() {
        ColourReduction x = Due.path(8, 9, 10);
        x.shift();
        x.setColour(2, 8);
        due.is("reduce() of an improper colouring", x.reduce(), -5);
        due.is("reduce(): roundCount()", x.roundCount(), 0);
        due.colours("reduce, refused", x, 0, 8, 8);
    }

    private static void shift() {
        ColourReduction x = Due.path(5, 6, 7);
        due.is("shift()", x.shift(), 3);
        due.colours("shift", x, 0, 5, 6);
        due.is("shift() of root 0", x.shift(), 3);
        due.colours("shift of root 0", x, 1, 0, 5);
        due.is("shift() of root 1", x.shift(), 3);
        due.colours("shift of root 1", x, 0, 1, 0);
        x.setColour(0, 2);
        x.shift();
        due.is("shift of root 2", x.colour(0), 0);
        ColourReduction cycle = Due.cycle(5, 6, 7);
        due.is("shift() of a cycle", cycle.shift(), 3);
        due.colours("shift of a cycle", cycle, 6, 7, 5);
        ColourReduction two = Due.cycle(5, 6);
        two.shift();
        due.colours("shift of two", two, 6, 5);
    }

    private static void shiftOfAnImproperColouring() {
        ColourReduction x = Due.path(5, 6, 7);
        x.setColour(1, 5);
        due.is("shift() with a conflict", x.shift(), 2);
        due.colours("shift with a conflict", x, 0, 5, 5);
        due.is("shift() with a conflict: roundCount()", x.roundCount(), 1);
    }

    private static void eliminate() {
        ColourReduction x = Due.path(0, 5, 1, 9, 65535);
        due.is("eliminate(5)", x.eliminate(5), 1);
        due.colours("eliminate(5)", x, 0, 2, 1, 9, 65535);
        due.is("eliminate(65535)", x.eliminate(65535), 1);
        due.colours("eliminate(65535)", x, 0, 2, 1, 9, 0);
        due.is("eliminate(3) of no node", x.eliminate(3), 0);
        due.is("eliminate: roundCount()", x.roundCount(), 3);
        x.setColour(3, 3);
        due.is("eliminate(3)", x.eliminate(3), 1);
        due.colours("eliminate(3)", x, 0, 2, 1, 2, 0);
    }

    private static void eliminateTakesColoursBeforeTheRound() {
        ColourReduction x = Due.nodes(7, 1, 8, 2);
        x.setColour(2, 7);
        x.setParent(0, 1);
        x.setParent(2, 3);
        x.setParent(3, 0);
        due.is("eliminate(7) of two", x.eliminate(7), 2);
        due.colours("eliminate(7) of two", x, 0, 1, 0, 2);
        ColourReduction lone = Due.nodes(4);
        due.is("eliminate(4) of a lone node", lone.eliminate(4), 1);
        due.is("eliminate(4): colour(0)", lone.colour(0), 0);
    }

    private static void eliminateErrorsInTheirOrder() {
        ColourReduction x = Due.nodes(9, 0, 1, 2, 4);
        for (int i = 1; i < 4; i++) {
            x.setParent(i, 0);
        }
        due.is("eliminate(9) with no colour free", x.eliminate(9), -6);
        due.is("eliminate(9): roundCount()", x.roundCount(), 0);
        due.is("eliminate(2)", x.eliminate(2), -2);
        due.is("eliminate(0)", x.eliminate(0), -2);
        due.is("eliminate(-1)", x.eliminate(-1), -2);
        due.is("eliminate(65536)", x.eliminate(65536), -2);
        due.is("eliminate(MAX)", x.eliminate(Integer.MAX_VALUE), -2);
        x.setParent(4, 1);
        x.setColour(4, 0);
        due.is("improper: eliminate(9)", x.eliminate(9), -5);
        due.is("improper: eliminate(8) of no node", x.eliminate(8), -5);
        due.is("improper: eliminate(2)", x.eliminate(2), -2);
        due.is("improper: eliminate(65536)", x.eliminate(65536), -2);
        due.colours("eliminate, refused", x, 9, 0, 1, 2, 0);
        x.setColour(4, 9);
        due.is("eliminate(9) with one node of two free", x.eliminate(9), -6);
        due.colours("eliminate(9), refused for one", x, 9, 0, 1, 2, 9);
        x.setParent(0, 3);
        x.removeParent(3);
        x.removeParent(2);
        due.is("eliminate(9) with the parent's colour taken", x.eliminate(9), 2);
        due.colours("eliminate(9) at last", x, 1, 0, 1, 2, 1);
    }

    private static void reduceToThree() {
        ColourReduction x = Due.path(5, 4, 3, 2, 1, 0);
        due.is("reduceToThree() without reductions", x.reduceToThree(), 6);
        due.is("reduceToThree: roundCount()", x.roundCount(), 6);
        due.is("reduceToThree: conflictCount()", x.conflictCount(), 0);
        due.is("reduceToThree: pastColour(0, 6)", x.pastColour(0, 6), 5);
        due.is("reduceToThree: pastColour(1, 5), a shift", x.pastColour(1, 5), 5);
        due.is("reduceToThree: pastColour(1, 4), no 5", x.pastColour(1, 4), 1);
        due.is("reduceToThree: pastColour(2, 4)", x.pastColour(2, 4), 4);
        due.is("reduceToThree: pastColour(3, 3), a shift", x.pastColour(3, 3), 4);
        due.is("reduceToThree: pastColour(3, 2), no 4", x.pastColour(3, 2), 0);
        due.is("reduceToThree: pastColour(4, 2)", x.pastColour(4, 2), 3);
        due.is("reduceToThree: pastColour(5, 1), a shift", x.pastColour(5, 1), 3);
        due.is("reduceToThree: colour(5), no 3", x.colour(5), 1);
        due.is("reduceToThree() again", x.reduceToThree(), 6);
        due.is("reduceToThree again: roundCount()", x.roundCount(), 12);
    }

    private static void reduceToThreeNeedsReductions() {
        ColourReduction one = Due.path(5, 6);
        due.is("reduceToThree() from 6", one.reduceToThree(), 7);
        due.colours("reduceToThree from 6", one, 0, 1);
        ColourReduction four = Due.path(51712, 59008, 48128, 35328, 29094, 12288, 32768);
        due.is("reduceToThree() with four reductions", four.reduceToThree(), 10);
        due.is("reduceToThree with four: conflictCount()", four.conflictCount(), 0);
        due.is("reduceToThree with four: colours above 2", four.greatestColour() > 2 ? 1 : 0, 0);
        int[] reductions = {12288, 2, 0, 6, 3};
        for (int i = 0; i < reductions.length; i++) {
            due.is("reduceToThree with four: pastColour(5, " + (10 - i) + ")",
                    four.pastColour(5, 10 - i), reductions[i]);
        }
    }

    private static void reduceToThreeErrors() {
        ColourReduction x = Due.path(8, 9, 10);
        x.setColour(1, 8);
        due.is("reduceToThree() of an improper colouring", x.reduceToThree(), -5);
        due.is("reduceToThree, refused: roundCount()", x.roundCount(), 0);
        due.colours("reduceToThree, refused", x, 8, 8, 10);
    }

    private static void roundsWithoutNodes() {
        ColourReduction x = new ColourReduction();
        due.is("no nodes: reduce()", x.reduce(), -7);
        due.is("no nodes: roundCount() 1", x.roundCount(), 1);
        due.is("no nodes: shift()", x.shift(), 0);
        due.is("no nodes: roundCount() 2", x.roundCount(), 2);
        due.is("no nodes: eliminate(3)", x.eliminate(3), 0);
        due.is("no nodes: roundCount() 3", x.roundCount(), 3);
        due.is("no nodes: reduceToThree()", x.reduceToThree(), 6);
        due.is("no nodes: roundCount() 9", x.roundCount(), 9);
        due.is("no nodes: pastColour(0, 1)", x.pastColour(0, 1), -1);
        x.addNode(4);
        due.is("a first node: roundCount()", x.roundCount(), 0);
        due.is("a first node: pastColour(0, 1)", x.pastColour(0, 1), -7);
        due.is("a first node: pastColour(0, 0)", x.pastColour(0, 0), 4);
    }

    private static void roundsOfAFullGraph() {
        ColourReduction x = Due.numbered(24);
        for (int i = 1; i < 24; i++) {
            x.setParent(i, i - 1);
        }
        due.is("full: shift()", x.shift(), 24);
        due.is("full: colour(23) after shift", x.colour(23), 22);
        due.is("full: eliminate(22)", x.eliminate(22), 1);
        due.is("full: colour(23) after eliminate", x.colour(23), 0);
        due.is("full: reduceToThree()", x.reduceToThree(), 7);
        due.is("full: conflictCount()", x.conflictCount(), 0);
        due.is("full: pastColour(23, 9)", x.pastColour(23, 9), 23);
        x.resetColours();
        due.is("full: reduce()", x.reduce(), 1);
        due.is("full: resetColours()", x.resetColours(), 22);
        due.is("full: colour(23)", x.colour(23), 23);
    }

    private static void farMoreCallsThanPromised() {
        // What these answer is free; that nothing is thrown is not.
        ColourReduction x = Due.cycle(100, 101, 102);
        int refused = 0;
        for (int call = 0; call < 100000; call++) {
            x.shift();
            refused += x.reduceToThree() < 0 || x.pastColour(2, call % 17) == -2 ? 1 : 0;
        }
        due.is("calls refused after the 512th", refused, 0);
    }

    private static void pastColour() {
        ColourReduction x = Due.cycle(100, 101, 102, 103, 104);
        for (int round = 0; round <= 40; round++) {
            for (int ago = 0; ago <= 16; ago++) {
                int want = ago > round ? -7 : 100 + (round - ago) % 5;
                due.is("pastColour(0, " + ago + ") of " + round, x.pastColour(0, ago), want);
            }
            due.is("roundCount() of " + round, x.roundCount(), round);
            x.shift();
        }
        due.is("pastColour(0, 17)", x.pastColour(0, 17), -2);
        due.is("pastColour(0, -1)", x.pastColour(0, -1), -2);
        due.is("pastColour(0, MIN)", x.pastColour(0, Integer.MIN_VALUE), -2);
        due.is("pastColour(0, MAX)", x.pastColour(0, Integer.MAX_VALUE), -2);
        due.is("pastColour(5, 0)", x.pastColour(5, 0), -1);
        due.is("pastColour(5, 17)", x.pastColour(5, 17), -1);
        due.is("pastColour(-1, -1)", x.pastColour(-1, -1), -1);
        x.resetColours();
        due.is("pastColour(0, 17) of a new count", x.pastColour(0, 17), -2);
        due.is("pastColour(0, 16) of a new count", x.pastColour(0, 16), -7);
    }

    private static void refusedEliminationKeepsTheWholePast() {
        ColourReduction x = Due.nodes(9, 0, 1, 2);
        for (int i = 1; i < 4; i++) {
            x.setParent(i, 0);
        }
        for (int round = 0; round < 20; round++) {
            x.eliminate(500 + round);
        }
        due.is("eliminate(9) after 20 rounds", x.eliminate(9), -6);
        due.is("roundCount() after 20 rounds", x.roundCount(), 20);
        for (int ago = 0; ago <= 16; ago++) {
            due.is("refused: pastColour(0, " + ago + ")", x.pastColour(0, ago), 9);
            due.is("refused: pastColour(3, " + ago + ")", x.pastColour(3, ago), 2);
        }
    }
}
