/** Promises 18 to 23: the rounds and the past. */
public final class RoundsTest {
    public static void main(String[] args) {
        Due.run(RoundsTest.class);
    }

    // ---- promise 18: reduce

    @Says("Returns the greatest colour after it, NONE if there are no nodes")
    static void promise18_noNodes(Due due) {
        ColourReduction x = new ColourReduction();
        due.is("reduce()", x.reduce(), -7);
        due.is("roundCount()", x.roundCount(), 1);
        due.is("reduce() again", x.reduce(), -7);
        due.is("roundCount() again", x.roundCount(), 2);
    }

    @Says("Returns the greatest colour after it, NONE if there are no nodes")
    static void promise18_theGreatestColourAfterIt(Due due) {
        ColourReduction x = Made.path(65535, 32767, 0, 32768);
        due.is("reduce()", x.reduce(), 31);
        due.colours("reduce", x, 1, 30, 0, 31);
        due.is("reduce() again", x.reduce(), 2);
        due.colours("reduce again", x, 1, 0, 2, 1);
        due.is("roundCount()", x.roundCount(), 2);
    }

    @Says("For a root, i is 0.")
    static void promise18_roots(Due due) {
        ColourReduction x = Made.nodes(0, 1, 2, 65534, 65535);
        due.is("reduce()", x.reduce(), 1);
        due.colours("the lowest bit", x, 0, 1, 0, 0, 1);
        due.is("reduce() of 6 alone", Made.nodes(6).reduce(), 0);
        due.is("reduce() of a root that is the parent of another", Made.path(7, 15).reduce(), 7);
    }

    @Says("the new colour is 2 * i plus the value of bit i in the old colour of the node")
    static void promise18_eachBit(Due due) {
        for (int bit = 0; bit < 16; bit++) {
            ColourReduction zero = Made.path(1 << bit, 0);
            zero.reduce();
            due.is("bit " + bit + " of 0", zero.colour(1), 2 * bit);
            ColourReduction one = Made.path(0, 1 << bit);
            one.reduce();
            due.is("bit " + bit + " of " + (1 << bit), one.colour(1), 2 * bit + 1);
        }
    }

    @Says("every new colour is computed from the colours before the round")
    static void promise18_allAtTheSameTime(Due due) {
        ColourReduction two = Made.cycle(4, 6);
        due.is("reduce() of two", two.reduce(), 3);
        due.colours("two", two, 2, 3);
        ColourReduction down = Made.path(10, 44, 3);
        due.is("reduce() from the root on", down.reduce(), 2);
        due.colours("from the root on", down, 0, 2, 1);
        ColourReduction up = Made.nodes(3, 44, 10);
        up.setParent(0, 1);
        up.setParent(1, 2);
        due.is("reduce() up to the root", up.reduce(), 2);
        due.colours("up to the root", up, 1, 2, 0);
    }

    @Says("A reduction is possible only if the colouring is proper")
    static void promise18_anImproperColouring(Due due) {
        due.refused(() -> Made.turnedImproper(5), "reduce()", ColourReduction::reduce, -5);
        due.refused(() -> Made.turnedImproper(24), "full: reduce()", ColourReduction::reduce, -5);
        ColourReduction last = Made.path(Made.from(0, 24));
        last.setColour(23, 22);
        due.is("reduce() with the last node in conflict", last.reduce(), -5);
        ColourReduction siblings = Made.star(5, 6, 7);
        siblings.setColour(2, 6);
        due.is("reduce() with siblings alike", siblings.reduce(), 1);
    }

    @Says("the new colouring is proper again")
    static void promise18_properAgain(Due due) {
        ColourReduction x = Made.cycle(0, 65535, 32767, 21845, 43690, 1, 16384, 49152, 2);
        for (int round = 1; round <= 6; round++) {
            due.is("reduce() number " + round + " is refused", x.reduce() < 0 ? 1 : 0, 0);
            due.is("conflictCount() after " + round, x.conflictCount(), 0);
        }
    }

    // ---- promise 19: shift

    @Says("Returns the number of nodes whose colour changed.")
    static void promise19_noNodes(Due due) {
        ColourReduction x = new ColourReduction();
        due.is("shift()", x.shift(), 0);
        due.is("roundCount()", x.roundCount(), 1);
    }

    @Says("A root takes the lowest of the colours 0, 1 and 2 that is not its old colour.")
    static void promise19_roots(Due due) {
        ColourReduction x = Made.nodes(0, 1, 2, 3, 65535);
        due.is("shift()", x.shift(), 5);
        due.colours("shift", x, 1, 0, 0, 0, 0);
        due.is("shift() again", x.shift(), 5);
        due.colours("shift again", x, 0, 1, 1, 1, 1);
    }

    @Says("a node with a parent takes the colour of its parent")
    static void promise19_allAtTheSameTime(Due due) {
        ColourReduction down = Made.path(5, 6, 7);
        due.is("down: shift()", down.shift(), 3);
        due.colours("down", down, 0, 5, 6);
        ColourReduction up = Made.cycle(5, 6, 7);
        up.removeParent(2);
        up.shift();
        due.colours("up", up, 6, 7, 0);
        ColourReduction cycle = Made.cycle(5, 6, 7);
        cycle.shift();
        due.colours("cycle", cycle, 6, 7, 5);
        ColourReduction two = Made.cycle(5, 6);
        due.is("two: shift()", two.shift(), 2);
        due.colours("two", two, 6, 5);
        due.is("full: shift()", Made.cycle(Made.from(0, 24)).shift(), 24);
    }

    @Says("Returns the number of nodes whose colour changed.")
    static void promise19_anImproperColouring(Due due) {
        ColourReduction x = Made.path(5, 6, 7);
        x.setColour(1, 5);
        due.is("shift()", x.shift(), 2);
        due.colours("shift", x, 0, 5, 5);
        due.is("roundCount()", x.roundCount(), 1);
        due.is("pastColour(2, 1)", x.pastColour(2, 1), 7);
    }

    @Says("Returns the number of nodes whose colour changed.")
    static void promise19_noColourChanged(Due due) {
        ColourReduction x = Made.cycle(5, 6, 7);
        x.setColour(1, 5);
        x.setColour(2, 5);
        due.is("shift()", x.shift(), 0);
        due.colours("shift", x, 5, 5, 5);
        due.is("roundCount()", x.roundCount(), 1);
        due.is("pastColour(0, 1)", x.pastColour(0, 1), 5);
    }

    // ---- promise 20: eliminate

    @Says("the colour to eliminate, 3 to 65535")
    static void promise20_theSmallestAndTheGreatestColour(Due due) {
        ColourReduction x = Made.nodes(3, 65535, 65534, 4);
        due.is("eliminate(3)", x.eliminate(3), 1);
        due.colours("eliminate(3)", x, 0, 65535, 65534, 4);
        due.is("eliminate(65535)", x.eliminate(65535), 1);
        due.colours("eliminate(65535)", x, 0, 0, 65534, 4);
        due.is("roundCount()", x.roundCount(), 2);
    }

    @Says("An argument is out of range.")
    static void promise20_aColourThatIsTooSmall(Due due) {
        for (int colour : new int[] {2, 1, 0, -1, -7, Integer.MIN_VALUE}) {
            due.refused(() -> threeColoursAfterRounds(), "eliminate(" + colour + ")",
                    x -> x.eliminate(colour), -2);
            due.is("no nodes: eliminate(" + colour + ")", new ColourReduction().eliminate(colour), -2);
        }
    }

    private static ColourReduction threeColoursAfterRounds() {
        return Made.shifted(Made.cycle(0, 1, 2), 20);
    }

    @Says("An argument is out of range.")
    static void promise20_aColourThatIsTooLarge(Due due) {
        for (int colour : new int[] {65536, 65539, 131072, Integer.MAX_VALUE}) {
            due.refused(() -> threeColoursAfterRounds(), "eliminate(" + colour + ")",
                    x -> x.eliminate(colour), -2);
            due.is("no nodes: eliminate(" + colour + ")", new ColourReduction().eliminate(colour), -2);
        }
    }

    @Says("Returns the number of nodes that had this colour")
    static void promise20_noNodeOfTheColour(Due due) {
        ColourReduction x = Made.path(7, 8, 9);
        due.is("eliminate(6)", x.eliminate(6), 0);
        due.is("eliminate(10)", x.eliminate(10), 0);
        due.colours("as before", x, 7, 8, 9);
        due.is("roundCount()", x.roundCount(), 2);
        ColourReduction empty = new ColourReduction();
        due.is("no nodes: eliminate(3)", empty.eliminate(3), 0);
        due.is("no nodes: roundCount()", empty.roundCount(), 1);
    }

    @Says("Returns the number of nodes that had this colour")
    static void promise20_allNodesOfTheColour(Due due) {
        ColourReduction x = Made.nodes(Made.from(100, 24));
        for (int node = 0; node < 24; node++) {
            x.setColour(node, 9);
        }
        due.is("eliminate(9)", x.eliminate(9), 24);
        due.colours("eliminate(9)", x, new int[24]);
        due.is("eliminate(9) again", x.eliminate(9), 0);
    }

    @Says("each node with the colour c takes the lowest of the colours 0, 1 and 2 that no neighbour of it has")
    static void promise20_theLowestFreeColour(Due due) {
        int[][] parentChildAndFree = {
            {0, 1, 2}, {1, 0, 2}, {1, 2, 0}, {2, 1, 0}, {0, 2, 1}, {2, 0, 1}, {0, 0, 1}, {1, 1, 0},
            {2, 2, 0}, {0, 5, 1}, {5, 0, 1}, {1, 65535, 0}, {5, 6, 0}};
        for (int[] row : parentChildAndFree) {
            ColourReduction x = Made.path(101, 9, 102);
            x.setColour(0, row[0]);
            x.setColour(2, row[1]);
            String call = "eliminate(9) between " + row[0] + " and " + row[1];
            due.is(call, x.eliminate(9), 1);
            due.colours(call, x, row[0], row[2], row[1]);
        }
    }

    @Says("each is a neighbour of the other one")
    static void promise20_parentsOfEachOther(Due due) {
        ColourReduction x = Made.cycle(0, 9);
        due.is("eliminate(9)", x.eliminate(9), 1);
        due.colours("eliminate(9)", x, 0, 1);
        x.setColour(0, 9);
        due.is("eliminate(9) of node 0", x.eliminate(9), 1);
        due.colours("eliminate(9) of node 0", x, 0, 1);
    }

    @Says("All other nodes keep their colours.")
    static void promise20_otherNodesKeepTheirColours(Due due) {
        ColourReduction x = Made.path(0, 5, 1, 9, 65535);
        due.is("eliminate(5)", x.eliminate(5), 1);
        due.colours("eliminate(5)", x, 0, 2, 1, 9, 65535);
        due.is("eliminate(65535)", x.eliminate(65535), 1);
        due.colours("eliminate(65535)", x, 0, 2, 1, 9, 0);
        due.is("pastColour(1, 2)", x.pastColour(1, 2), 5);
        due.is("pastColour(4, 1)", x.pastColour(4, 1), 65535);
    }

    @Says("An elimination is possible only if the colouring is proper")
    static void promise20_anImproperColouring(Due due) {
        due.refused(() -> Made.turnedImproper(5), "eliminate(103)", x -> x.eliminate(103), -5);
        due.refused(() -> Made.turnedImproper(5), "eliminate(100), in conflict", x -> x.eliminate(100), -5);
        due.refused(() -> Made.turnedImproper(5), "eliminate(3) of no node", x -> x.eliminate(3), -5);
        due.refused(() -> Made.turnedImproper(24), "full: eliminate(103)", x -> x.eliminate(103), -5);
    }

    /** The middle has children of the colours 0, 1 and 2; the eliminations end 20 rounds later. */
    private static ColourReduction noColourFreeForNode0() {
        ColourReduction x = Made.star(9, 0, 1, 2);
        for (int i = 0; i < 19; i++) {
            x.addNode(100 + i);
        }
        x.addNode(200);
        x.setColour(23, 9);
        x.setParent(23, 22);
        for (int i = 0; i < 20; i++) {
            x.eliminate(100 + i);
        }
        return x;
    }

    @Says("Some node has no free colour.")
    static void promise20_noFreeColour(Due due) {
        due.refused(() -> noColourFreeForNode0(), "eliminate(9)", x -> x.eliminate(9), -6);
        ColourReduction x = Made.path(0, 9, 1);
        x.addNode(2);
        x.setParent(3, 1);
        due.is("the parent's colour and two children's: eliminate(9)", x.eliminate(9), -6);
        due.colours("refused", x, 0, 9, 1, 2);
        x.setColour(3, 3);
        due.is("eliminate(9) when 2 came free", x.eliminate(9), 1);
        due.colours("eliminate(9)", x, 0, 2, 1, 3);
    }

    @Says("there is such a colour for each node with the colour c")
    static void promise20_noFreeColourForOneOfSeveral(Due due) {
        for (int stuck = 0; stuck < 3; stuck++) {
            ColourReduction x = Made.nodes(101, 102, 103, 0, 1, 2);
            for (int node = 0; node < 3; node++) {
                x.setColour(node, 9);
                x.setParent(3 + node, stuck);
            }
            due.is("no free colour for node " + stuck + ": eliminate(9)", x.eliminate(9), -6);
            due.is("roundCount()", x.roundCount(), 0);
            due.colours("refused for node " + stuck, x, 9, 9, 9, 0, 1, 2);
        }
    }

    @Says("there is such a colour for each node with the colour c")
    static void promise20_noFreeColourForANodeOfAnotherColour(Due due) {
        ColourReduction x = Made.star(9, 0, 1, 2);
        x.addNode(8);
        due.is("eliminate(8)", x.eliminate(8), 1);
        due.colours("eliminate(8)", x, 9, 0, 1, 2, 0);
        due.is("eliminate(7) of no node", x.eliminate(7), 0);
    }

    @Says("Each method lists its errors in the order in which they are checked")
    static void promise20_badValueComesBeforeNotProper(Due due) {
        due.refused(() -> Made.turnedImproper(5), "improper: eliminate(2)", x -> x.eliminate(2), -2);
        due.refused(() -> Made.turnedImproper(5), "improper: eliminate(65536)", x -> x.eliminate(65536), -2);
    }

    @Says("Each method lists its errors in the order in which they are checked")
    static void promise20_badValueComesBeforeNoFreeColour(Due due) {
        due.refused(() -> noColourFreeForNode0(), "eliminate(2)", x -> x.eliminate(2), -2);
    }

    @Says("Each method lists its errors in the order in which they are checked")
    static void promise20_notProperComesBeforeNoFreeColour(Due due) {
        ColourReduction x = Made.star(9, 0, 1, 2, 4);
        x.setParent(4, 1);
        x.setColour(4, 0);
        due.is("eliminate(9)", x.eliminate(9), -5);
        x.setColour(4, 5);
        due.is("eliminate(9) when proper again", x.eliminate(9), -6);
    }

    // ---- promise 21: reduceToThree

    @Says("These six rounds are done also if no node has such a colour or there are no nodes.")
    static void promise21_noNodes(Due due) {
        ColourReduction x = new ColourReduction();
        due.is("reduceToThree()", x.reduceToThree(), 6);
        due.is("roundCount()", x.roundCount(), 6);
    }

    @Says("These six rounds are done also if no node has such a colour or there are no nodes.")
    static void promise21_noNodeOfSuchAColour(Due due) {
        ColourReduction x = Made.path(0, 1);
        due.is("reduceToThree()", x.reduceToThree(), 6);
        int[] root = {0, 1, 1, 0, 0, 1, 1};
        int[] child = {1, 0, 0, 1, 1, 0, 0};
        for (int ago = 0; ago <= 6; ago++) {
            due.is("pastColour(0, " + ago + ")", x.pastColour(0, ago), root[6 - ago]);
            due.is("pastColour(1, " + ago + ")", x.pastColour(1, ago), child[6 - ago]);
        }
        due.is("reduceToThree() again", x.reduceToThree(), 6);
        due.is("roundCount()", x.roundCount(), 12);
    }

    @Says("reductions as long as the greatest colour is above 5")
    static void promise21_theGreatestColourIs5(Due due) {
        ColourReduction x = Made.path(4, 5);
        due.is("reduceToThree()", x.reduceToThree(), 6);
        due.is("pastColour(1, 6)", x.pastColour(1, 6), 5);
        due.is("pastColour(1, 5), a shift", x.pastColour(1, 5), 4);
        due.is("pastColour(1, 7)", x.pastColour(1, 7), -7);
        due.is("a lone node of 5: reduceToThree()", Made.nodes(5).reduceToThree(), 6);
    }

    @Says("reductions as long as the greatest colour is above 5")
    static void promise21_theGreatestColourIs6(Due due) {
        ColourReduction x = Made.path(5, 6);
        due.is("reduceToThree()", x.reduceToThree(), 7);
        due.is("pastColour(0, 6), a reduction", x.pastColour(0, 6), 1);
        due.is("pastColour(1, 6), a reduction", x.pastColour(1, 6), 0);
        due.colours("reduceToThree", x, 0, 1);
        due.is("a lone node of 6: reduceToThree()", Made.nodes(6).reduceToThree(), 7);
        due.is("a lone node of 65535: reduceToThree()", Made.nodes(65535).reduceToThree(), 7);
    }

    @Says("reductions as long as the greatest colour is above 5")
    static void promise21_asManyReductionsAsThereCanBe(Due due) {
        ColourReduction x = Made.path(51712, 59008, 48128, 35328, 29094, 12288, 32768);
        due.is("reduceToThree()", x.reduceToThree(), 10);
        due.is("conflictCount()", x.conflictCount(), 0);
        due.is("colours above 2", x.greatestColour() > 2 ? 1 : 0, 0);
        int[] reductions = {12288, 2, 0, 6, 3};
        for (int i = 0; i < reductions.length; i++) {
            due.is("pastColour(5, " + (10 - i) + ")", x.pastColour(5, 10 - i), reductions[i]);
        }
    }

    @Says("a shift and an elimination of colour 5, a shift and an elimination of colour 4,"
            + " and a shift and an elimination of colour 3")
    static void promise21_theSixRoundsInTheirOrder(Due due) {
        ColourReduction x = Made.path(5, 4, 3, 2, 1, 0);
        due.is("reduceToThree()", x.reduceToThree(), 6);
        due.is("pastColour(0, 6)", x.pastColour(0, 6), 5);
        due.is("pastColour(1, 5), a shift", x.pastColour(1, 5), 5);
        due.is("pastColour(1, 4), no 5", x.pastColour(1, 4), 1);
        due.is("pastColour(2, 4), still 4", x.pastColour(2, 4), 4);
        due.is("pastColour(3, 3), a shift", x.pastColour(3, 3), 4);
        due.is("pastColour(3, 2), no 4", x.pastColour(3, 2), 0);
        due.is("pastColour(4, 2), still 3", x.pastColour(4, 2), 3);
        due.is("pastColour(5, 1), a shift", x.pastColour(5, 1), 3);
        due.is("colour(5), no 3", x.colour(5), 1);
        due.is("conflictCount()", x.conflictCount(), 0);
    }

    @Says("Reduces the colouring to at most three colours")
    static void promise21_atMostThreeColours(Due due) {
        int[] identifiers = new int[24];
        for (int i = 0; i < 24; i++) {
            identifiers[i] = (i + 1) * 40503 % 65536;
        }
        for (ColourReduction x : new ColourReduction[] {
                Made.path(identifiers), Made.cycle(identifiers), Made.star(identifiers), Made.cycle(0, 65535)}) {
            int rounds = x.reduceToThree();
            due.is("rounds are at least 7", rounds >= 7 ? 1 : 0, 1);
            due.is("roundCount()", x.roundCount(), rounds);
            due.is("conflictCount()", x.conflictCount(), 0);
            due.is("colours above 2", x.greatestColour() > 2 ? 1 : 0, 0);
            due.is("reduceToThree() again", x.reduceToThree(), 6);
        }
    }

    @Says("Returns the number of rounds done by this call")
    static void promise21_theRoundsBeforeTheCallDoNotCount(Due due) {
        ColourReduction x = Made.shifted(Made.cycle(0, 1, 2), 4);
        due.is("reduceToThree()", x.reduceToThree(), 6);
        due.is("roundCount()", x.roundCount(), 10);
        due.is("pastColour(0, 10)", x.pastColour(0, 10), 0);
    }

    @Says("The colouring is not proper.")
    static void promise21_anImproperColouring(Due due) {
        due.refused(() -> Made.turnedImproper(5), "reduceToThree()", ColourReduction::reduceToThree, -5);
        due.refused(() -> Made.turnedImproper(24), "full: reduceToThree()", ColourReduction::reduceToThree, -5);
        due.refused(() -> improperBelow5(), "below 5: reduceToThree()", ColourReduction::reduceToThree, -5);
    }

    private static ColourReduction improperBelow5() {
        ColourReduction x = Made.cycle(0, 1, 2);
        x.setColour(1, 2);
        return Made.shifted(x, 20);
    }

    // ---- promise 22: roundCount

    @Says("Returns the number of rounds since the count was started.")
    static void promise22_noRounds(Due due) {
        due.is("a new object", new ColourReduction().roundCount(), 0);
        due.is("after changes alone", Made.cycle(5, 6, 7).roundCount(), 0);
    }

    @Says("The object counts the rounds")
    static void promise22_eachKindOfRound(Due due) {
        ColourReduction x = Made.path(5, 6, 7);
        x.reduce();
        due.is("after a reduction", x.roundCount(), 1);
        x.shift();
        due.is("after a shift", x.roundCount(), 2);
        x.eliminate(3);
        due.is("after an elimination", x.roundCount(), 3);
        int more = x.reduceToThree();
        due.is("after reduceToThree", x.roundCount(), 3 + more);
    }

    @Says("An error changes nothing.")
    static void promise22_refusedRoundsDoNotCount(Due due) {
        ColourReduction x = Made.turnedImproper(5);
        x.reduce();
        x.eliminate(2);
        x.eliminate(103);
        x.reduceToThree();
        due.is("improper: roundCount()", x.roundCount(), 20);
        ColourReduction stuck = noColourFreeForNode0();
        stuck.eliminate(9);
        due.is("no free colour: roundCount()", stuck.roundCount(), 20);
    }

    @Says("A successful call of addNode, setParent, removeParent, setColour, resetColours or recolour"
            + " starts a new count")
    static void promise22_otherCallsStartNoCount(Due due) {
        ColourReduction x = Made.turned(23);
        int[] answers = {
            x.parent(0), x.degree(0), x.depth(0), x.cycleLength(0), x.partCount(), x.colour(0),
            x.colourCount(), x.greatestColour(), x.conflictCount(), x.differingBit(0), x.roundCount(),
            x.pastColour(0, 1), x.inIndependentSet(0), x.independentSetSize(), x.greatestIndependentSet(0)};
        due.is("questions", answers.length, 15);
        due.is("roundCount() after questions", x.roundCount(), 20);
        for (int ago = 0; ago <= 16; ago++) {
            due.is("pastColour(0, " + ago + ")", x.pastColour(0, ago), colourOfNode0After(20 - ago));
        }
        x.reduce();
        x.shift();
        x.eliminate(5);
        due.is("roundCount() after three more rounds", x.roundCount(), 23);
        due.is("pastColour(0, 3)", x.pastColour(0, 3), colourOfNode0After(20));
    }

    @Says("An object is used for at most 512 calls after it has been made")
    static void promise22_asManyRoundsAsThereCanBe(Due due) {
        ColourReduction shifts = new ColourReduction();
        ColourReduction most = new ColourReduction();
        for (int call = 1; call < 512; call++) {
            shifts.shift();
            most.reduceToThree();
        }
        due.is("shifts: roundCount()", shifts.roundCount(), 511);
        due.is("most: roundCount()", most.roundCount(), 3066);
    }

    // ---- promise 23: pastColour

    /** A cycle of 23 nodes, so that no two of 23 rounds have the same colours. */
    private static ColourReduction turned23(int rounds) {
        return Made.shifted(Made.cycle(Made.from(100, 23)), rounds);
    }

    private static int colourOfNode0After(int rounds) {
        return 100 + rounds % 23;
    }

    @Says("how many rounds ago, 0 to 16")
    static void promise23_zeroRoundsAgo(Due due) {
        ColourReduction x = Made.path(5, 6, 7);
        due.is("pastColour(2, 0) without rounds", x.pastColour(2, 0), 7);
        x.shift();
        due.is("pastColour(2, 0) after a round", x.pastColour(2, 0), 6);
        x.setColour(2, 9);
        due.is("pastColour(2, 0) after setColour", x.pastColour(2, 0), 9);
    }

    @Says("how many rounds ago, 0 to 16")
    static void promise23_sixteenRoundsAgo(Due due) {
        for (int rounds = 16; rounds <= 20; rounds++) {
            due.is("pastColour(0, 16) after " + rounds, turned23(rounds).pastColour(0, 16),
                    colourOfNode0After(rounds - 16));
        }
    }

    @Says("BAD_VALUE if roundsAgo is out of range")
    static void promise23_lessThan0RoundsAgo(Due due) {
        for (int ago : new int[] {-1, -7, -16, -18, Integer.MIN_VALUE}) {
            due.refused(() -> turned23(20), "pastColour(0, " + ago + ")", x -> x.pastColour(0, ago), -2);
        }
    }

    @Says("BAD_VALUE if roundsAgo is out of range")
    static void promise23_moreThan16RoundsAgo(Due due) {
        for (int ago : new int[] {17, 18, 19, 36, Integer.MAX_VALUE}) {
            due.refused(() -> turned23(40), "pastColour(0, " + ago + ")", x -> x.pastColour(0, ago), -2);
        }
    }

    @Says("all of them are checked before NONE is returned")
    static void promise23_badValueComesBeforeNone(Due due) {
        ColourReduction x = Made.nodes(5);
        due.is("pastColour(0, 17) without rounds", x.pastColour(0, 17), -2);
        due.is("pastColour(0, 16) without rounds", x.pastColour(0, 16), -7);
        due.is("pastColour(0, -1) without rounds", x.pastColour(0, -1), -2);
    }

    @Says("There is no such node.")
    static void promise23_noSuchNode(Due due) {
        due.noSuchNode("pastColour, 0 rounds ago,", (x, node) -> x.pastColour(node, 0));
        due.noSuchNode("pastColour, 16 rounds ago,", (x, node) -> x.pastColour(node, 16));
    }

    @Says("Each method lists its errors in the order in which they are checked")
    static void promise23_noSuchNodeComesBeforeBadValue(Due due) {
        due.noSuchNode("pastColour, 17 rounds ago,", (x, node) -> x.pastColour(node, 17));
        due.noSuchNode("pastColour, -1 rounds ago,", (x, node) -> x.pastColour(node, -1));
    }

    @Says("all of them are checked before NONE is returned")
    static void promise23_noSuchNodeComesBeforeNone(Due due) {
        due.is("no nodes: pastColour(0, 1)", new ColourReduction().pastColour(0, 1), -1);
        due.is("pastColour(1, 1) without rounds", Made.nodes(5).pastColour(1, 1), -1);
    }

    @Says("NONE if fewer rounds were done since the count was started")
    static void promise23_fewerRounds(Due due) {
        for (int rounds = 0; rounds <= 16; rounds++) {
            ColourReduction x = turned23(rounds);
            for (int ago = 0; ago <= 16; ago++) {
                int want = ago > rounds ? -7 : colourOfNode0After(rounds - ago);
                due.is("pastColour(0, " + ago + ") after " + rounds, x.pastColour(0, ago), want);
            }
        }
    }

    @Says("Returns the colour that the node had before the latest roundsAgo rounds")
    static void promise23_manyMoreRoundsThanAreKept(Due due) {
        for (int rounds = 17; rounds <= 440; rounds += rounds < 60 ? 1 : 19) {
            ColourReduction x = turned23(rounds);
            for (int ago = 0; ago <= 16; ago++) {
                due.is("pastColour(0, " + ago + ") after " + rounds, x.pastColour(0, ago),
                        colourOfNode0After(rounds - ago));
            }
            due.is("pastColour(22, 16) after " + rounds, x.pastColour(22, 16),
                    colourOfNode0After(rounds - 16 + 22));
        }
    }

    @Says("Returns the colour that the node had before the latest roundsAgo rounds")
    static void promise23_theRoundsOfReduceToThree(Due due) {
        ColourReduction x = Made.path(5, 6);
        x.reduceToThree();
        due.is("pastColour(1, 7)", x.pastColour(1, 7), 6);
        due.is("pastColour(1, 8)", x.pastColour(1, 8), -7);
        x.reduceToThree();
        x.reduceToThree();
        due.is("pastColour(1, 13) after 19 rounds", x.pastColour(1, 13), 1);
        due.is("pastColour(1, 14) after 19 rounds", x.pastColour(1, 14), 0);
        due.is("pastColour(1, 15) after 19 rounds", x.pastColour(1, 15), 0);
        due.is("pastColour(1, 16) after 19 rounds", x.pastColour(1, 16), 1);
    }

    @Says("the number of rounds becomes 0, and the past is forgotten")
    static void promise23_aForgottenPast(Due due) {
        ColourReduction x = turned23(40);
        x.addNode(7);
        for (int ago = 1; ago <= 16; ago++) {
            due.is("pastColour(0, " + ago + ")", x.pastColour(0, ago), -7);
            due.is("new node: pastColour(23, " + ago + ")", x.pastColour(23, ago), -7);
        }
        x.shift();
        due.is("a round later: pastColour(23, 1)", x.pastColour(23, 1), 7);
        due.is("a round later: pastColour(0, 1)", x.pastColour(0, 1), colourOfNode0After(40));
        due.is("a round later: pastColour(0, 2)", x.pastColour(0, 2), -7);
        ColourReduction later = new ColourReduction();
        later.reduceToThree();
        later.addNode(4);
        due.is("rounds before the first node: pastColour(0, 1)", later.pastColour(0, 1), -7);
    }

    @Says("An error changes nothing.")
    static void promise23_aRefusedEliminationKeepsTheWholePast(Due due) {
        ColourReduction x = noColourFreeForNode0();
        for (int tries = 0; tries < 3; tries++) {
            x.eliminate(9);
        }
        for (int ago = 0; ago <= 16; ago++) {
            due.is("pastColour(0, " + ago + ")", x.pastColour(0, ago), 9);
            due.is("pastColour(3, " + ago + ")", x.pastColour(3, ago), 2);
            for (int node = 4; node < 23; node++) {
                int eliminatedIn = node - 4 + 1;
                int want = 20 - ago < eliminatedIn ? 96 + node : 0;
                due.is("pastColour(" + node + ", " + ago + ")", x.pastColour(node, ago), want);
            }
        }
    }

    @Says("what later calls answer is free")
    static void promise23_afterThe512thCallNothingIsThrown(Due due) {
        ColourReduction x = Made.cycle(100, 101, 102);
        int refused = 0;
        for (int call = 0; call < 100000; call++) {
            x.shift();
            refused += x.reduceToThree() < 0 || x.pastColour(2, call % 17) == -2 ? 1 : 0;
        }
        due.is("calls refused", refused, 0);
    }
}
