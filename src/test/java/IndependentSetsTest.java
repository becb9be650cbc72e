/** Promises 24 to 26: the independent sets. */
public final class IndependentSetsTest {
    public static void main(String[] args) {
        Due.run(IndependentSetsTest.class);
    }

    private static void members(Due due, String when, ColourReduction x, int... want) {
        for (int i = 0; i < want.length; i++) {
            due.is(when + ": inIndependentSet(" + i + ")", x.inIndependentSet(i), want[i]);
        }
    }

    // ---- promise 24: inIndependentSet

    @Says("a visited node joins the set if none of its neighbours has joined it")
    static void promise24_noNeighbours(Due due) {
        members(due, "the only node", Made.nodes(65535), 1);
        members(due, "lone nodes", Made.nodes(3, 2, 1, 0), 1, 1, 1, 1);
        ColourReduction beside = Made.path(0, 65534);
        beside.addNode(65535);
        members(due, "beside two others", beside, 1, 0, 1);
    }

    @Says("the nodes are visited by ascending colour")
    static void promise24_byAscendingColour(Due due) {
        members(due, "the lowest at the root", Made.path(1, 2, 3, 4, 5), 1, 0, 1, 0, 1);
        members(due, "the lowest at the end", Made.path(5, 4, 3, 2), 0, 1, 0, 1);
        members(due, "the lowest inside", Made.path(5, 1, 4, 2, 3), 0, 1, 0, 1, 0);
        members(due, "both ends high", Made.path(9, 1, 8, 7, 2), 0, 1, 0, 0, 1);
        members(due, "a cycle", Made.cycle(3, 1, 4, 5, 2), 0, 1, 0, 0, 1);
        members(due, "0 and 65535", Made.path(65535, 0), 0, 1);
        members(due, "a star with a low middle", Made.star(0, 1, 2, 3), 1, 0, 0, 0);
        members(due, "a star with a high middle", Made.star(3, 0, 1, 2), 0, 1, 1, 1);
    }

    @Says("built from the colours")
    static void promise24_colourAndNotIdentifier(Due due) {
        ColourReduction x = Made.path(1, 2, 3);
        x.setColour(1, 0);
        members(due, "a colour that was set", x, 0, 1, 0);
        x.shift();
        members(due, "a shift later", x, 1, 0, 1);
        due.colours("the colours stay", x, 0, 1, 0);
        due.is("roundCount() stays", x.roundCount(), 1);
    }

    @Says("nodes of the same colour by ascending number")
    static void promise24_nodesOfTheSameColour(Due due) {
        // Neighbours of a proper colouring differ, so equal colours never compete.
        ColourReduction x = Made.path(10, 11, 12, 13);
        x.setColour(0, 2);
        x.setColour(1, 1);
        x.setColour(2, 2);
        x.setColour(3, 1);
        members(due, "two colours", x, 0, 1, 0, 1);
        ColourReduction roots = Made.nodes(10, 11, 12);
        roots.setColour(1, 10);
        roots.setColour(2, 10);
        members(due, "roots of one colour", roots, 1, 1, 1);
    }

    @Says("a visited node joins the set if none of its neighbours has joined it")
    static void promise24_asManyNodesAsThereCanBe(Due due) {
        ColourReduction up = Made.path(Made.from(0, 24));
        ColourReduction star = Made.star(Made.from(0, 24));
        star.setColour(0, 65535);
        for (int node = 0; node < 24; node++) {
            due.is("path: inIndependentSet(" + node + ")", up.inIndependentSet(node), 1 - node % 2);
            due.is("star: inIndependentSet(" + node + ")", star.inIndependentSet(node), node == 0 ? 0 : 1);
        }
    }

    @Says("each is a neighbour of the other one")
    static void promise24_parentsOfEachOther(Due due) {
        members(due, "two", Made.cycle(6, 5), 0, 1);
        members(due, "two, the other way", Made.cycle(5, 6), 1, 0);
    }

    @Says("There is no such node.")
    static void promise24_noSuchNode(Due due) {
        due.noSuchNode("inIndependentSet", ColourReduction::inIndependentSet);
    }

    @Says("The colouring is not proper.")
    static void promise24_anImproperColouring(Due due) {
        for (int node = 0; node < 5; node++) {
            int asked = node;
            due.refused(() -> Made.turnedImproper(5), "inIndependentSet(" + node + ")",
                    x -> x.inIndependentSet(asked), -5);
        }
        ColourReduction x = Made.path(1, 2, 3);
        x.addNode(9);
        x.setColour(2, 2);
        due.is("a conflict in another part: inIndependentSet(3)", x.inIndependentSet(3), -5);
    }

    @Says("Each method lists its errors in the order in which they are checked")
    static void promise24_noSuchNodeComesBeforeNotProper(Due due) {
        due.refused(() -> Made.turnedImproper(5), "inIndependentSet(5)", x -> x.inIndependentSet(5), -1);
        due.refused(() -> Made.turnedImproper(5), "inIndependentSet(-1)", x -> x.inIndependentSet(-1), -1);
    }

    // ---- promise 25: independentSetSize

    @Says("Returns the number of nodes of the independent set")
    static void promise25_noNodes(Due due) {
        due.is("independentSetSize()", new ColourReduction().independentSetSize(), 0);
    }

    @Says("Returns the number of nodes of the independent set")
    static void promise25_fromOneNodeToAll(Due due) {
        due.is("the only node", Made.nodes(5).independentSetSize(), 1);
        due.is("all alone", Made.nodes(Made.from(0, 24)).independentSetSize(), 24);
        due.is("a star with a low middle", Made.star(Made.from(0, 24)).independentSetSize(), 1);
        ColourReduction star = Made.star(Made.from(0, 24));
        star.setColour(0, 24);
        due.is("a star with a high middle", star.independentSetSize(), 23);
        due.is("a path", Made.path(Made.from(0, 24)).independentSetSize(), 12);
        due.is("two parents of each other", Made.cycle(5, 6).independentSetSize(), 1);
        due.is("a path that is not at its best", Made.path(9, 1, 8, 7, 2).independentSetSize(), 2);
    }

    @Says("Returns the number of nodes of the independent set")
    static void promise25_allPartsCount(Due due) {
        ColourReduction x = Made.path(5, 6, 7);
        x.addNode(1);
        x.addNode(2);
        x.setParent(4, 3);
        due.is("two parts", x.independentSetSize(), 3);
    }

    @Says("The colouring is not proper.")
    static void promise25_anImproperColouring(Due due) {
        due.refused(() -> Made.turnedImproper(5), "independentSetSize()",
                ColourReduction::independentSetSize, -5);
        ColourReduction last = Made.path(Made.from(0, 24));
        last.setColour(23, 22);
        due.is("the last node in conflict", last.independentSetSize(), -5);
    }

    // ---- promise 26: greatestIndependentSet

    @Says("the greatest number of nodes of any independent set")
    static void promise26_aLoneNode(Due due) {
        due.is("the only node", Made.nodes(4).greatestIndependentSet(0), 1);
        due.is("one of 24", Made.nodes(Made.from(0, 24)).greatestIndependentSet(23), 1);
    }

    @Says("the greatest number of nodes of any independent set")
    static void promise26_pathsOfEachLength(Due due) {
        for (int length = 1; length <= 24; length++) {
            ColourReduction x = Made.path(Made.from(0, length));
            due.is(length + " nodes, at the root", x.greatestIndependentSet(0), (length + 1) / 2);
            due.is(length + " nodes, at the end", x.greatestIndependentSet(length - 1), (length + 1) / 2);
        }
    }

    @Says("the greatest number of nodes of any independent set")
    static void promise26_stars(Due due) {
        due.is("the greatest star", Made.star(Made.from(0, 24)).greatestIndependentSet(0), 23);
        due.is("at a leaf", Made.star(Made.from(0, 24)).greatestIndependentSet(23), 23);
        due.is("three nodes", Made.star(1, 2, 3).greatestIndependentSet(0), 2);
        ColourReduction lastInTheMiddle = Made.nodes(Made.from(0, 24));
        for (int leaf = 0; leaf < 23; leaf++) {
            lastInTheMiddle.setParent(leaf, 23);
        }
        due.is("the last node in the middle", lastInTheMiddle.greatestIndependentSet(23), 23);
    }

    @Says("the greatest number of nodes of any independent set")
    static void promise26_cyclesOfEachLength(Due due) {
        for (int length = 2; length <= 24; length++) {
            ColourReduction x = Made.cycle(Made.from(0, length));
            due.is("a cycle of " + length, x.greatestIndependentSet(length - 1), length / 2);
        }
    }

    @Says("the greatest number of nodes of any independent set")
    static void promise26_cyclesWithTrees(Due due) {
        ColourReduction sun = Made.cycle(0, 1, 2, 3, 4);
        for (int i = 0; i < 5; i++) {
            sun.addNode(10 + i);
            sun.setParent(5 + i, i);
        }
        due.is("a sun", sun.greatestIndependentSet(0), 5);
        ColourReduction tail = Made.cycle(0, 1, 2);
        tail.addNode(3);
        tail.addNode(4);
        tail.setParent(3, 0);
        tail.setParent(4, 3);
        due.is("a triangle with a tail of two", tail.greatestIndependentSet(4), 2);
        tail.addNode(5);
        tail.setParent(5, 4);
        due.is("a triangle with a tail of three", tail.greatestIndependentSet(1), 3);
    }

    @Says("If two nodes are the parents of each other, each is a neighbour of the other one")
    static void promise26_parentsOfEachOther(Due due) {
        ColourReduction two = Made.cycle(0, 1);
        due.is("two alone", two.greatestIndependentSet(0), 1);
        two.addNode(2);
        two.addNode(3);
        two.setParent(2, 0);
        two.setParent(3, 0);
        due.is("two with children of one", two.greatestIndependentSet(0), 3);
        two.setParent(3, 1);
        due.is("two with a child each", two.greatestIndependentSet(0), 2);
    }

    @Says("in the part of the graph that a node belongs to")
    static void promise26_otherPartsDoNotCount(Due due) {
        ColourReduction star = Made.star(Made.from(0, 24));
        star.removeParent(4);
        due.is("a star without a leaf", star.greatestIndependentSet(0), 22);
        due.is("the leaf", star.greatestIndependentSet(4), 1);
        ColourReduction x = Made.nodes(Made.from(0, 6));
        for (int i = 1; i < 6; i++) {
            x.setParent(i, i % 5 + 1);
        }
        due.is("a cycle beside a lone node", x.greatestIndependentSet(3), 2);
        due.is("the lone node", x.greatestIndependentSet(0), 1);
    }

    @Says("the colours do not matter")
    static void promise26_coloursDoNotMatter(Due due) {
        ColourReduction x = Made.path(1, 2, 3);
        x.setColour(0, 2);
        x.setColour(2, 2);
        due.is("an improper colouring", x.greatestIndependentSet(1), 2);
        due.is("a path whose colours build less", Made.path(9, 1, 8, 7, 2).greatestIndependentSet(0), 3);
    }

    @Says("There is no such node.")
    static void promise26_noSuchNode(Due due) {
        due.noSuchNode("greatestIndependentSet", ColourReduction::greatestIndependentSet);
    }
}
