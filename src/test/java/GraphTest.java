/** Promises 1 to 9: a new object, and the graph. */
public final class GraphTest {
    public static void main(String[] args) {
        Due.run(GraphTest.class);
    }

    // ---- promise 1: a new object

    @Says("There are no nodes.")
    static void promise01_aNewObjectHasNoNodes(Due due) {
        ColourReduction x = new ColourReduction();
        due.is("parent(0)", x.parent(0), -1);
        due.is("colour(0)", x.colour(0), -1);
        due.is("pastColour(0, 0)", x.pastColour(0, 0), -1);
        due.is("partCount()", x.partCount(), 0);
        due.is("colourCount()", x.colourCount(), 0);
        due.is("greatestColour()", x.greatestColour(), -7);
        due.is("conflictCount()", x.conflictCount(), 0);
        due.is("roundCount()", x.roundCount(), 0);
        due.is("independentSetSize()", x.independentSetSize(), 0);
        due.is("resetColours()", x.resetColours(), 0);
    }

    @Says("There are no nodes.")
    static void promise01_aNewObjectHasNoNodesOfAnother(Due due) {
        ColourReduction x = new ColourReduction();
        ColourReduction other = new ColourReduction();
        x.addNode(3);
        x.shift();
        due.is("other: colour(0)", other.colour(0), -1);
        due.is("other: roundCount()", other.roundCount(), 0);
        due.is("other: addNode(3)", other.addNode(3), 0);
        due.is("later: colour(0)", new ColourReduction().colour(0), -1);
    }

    // ---- promise 2: addNode

    @Says("numbered from 0 in the order in which they are added")
    static void promise02_nodesAreNumberedFrom0(Due due) {
        ColourReduction x = new ColourReduction();
        due.is("addNode(9)", x.addNode(9), 0);
        due.is("addNode(4)", x.addNode(4), 1);
        due.is("addNode(7)", x.addNode(7), 2);
        due.colours("in their order", x, 9, 4, 7, -1);
    }

    @Says("An error changes nothing.")
    static void promise02_aRefusedNodeTakesNoNumber(Due due) {
        ColourReduction x = Made.nodes(5);
        x.addNode(5);
        x.addNode(-1);
        x.addNode(65536);
        due.is("addNode(6) after refused ones", x.addNode(6), 1);
        due.is("addNode(7)", x.addNode(7), 2);
    }

    @Says("Each node has an identifier from 0 to 65535")
    static void promise02_theSmallestIdentifier(Due due) {
        ColourReduction x = new ColourReduction();
        due.is("addNode(0)", x.addNode(0), 0);
        due.is("colour(0)", x.colour(0), 0);
        due.is("addNode(0) again", x.addNode(0), -3);
    }

    @Says("Each node has an identifier from 0 to 65535")
    static void promise02_theGreatestIdentifier(Due due) {
        ColourReduction x = new ColourReduction();
        due.is("addNode(65535)", x.addNode(65535), 0);
        due.is("colour(0)", x.colour(0), 65535);
        due.is("addNode(65535) again", x.addNode(65535), -3);
    }

    @Says("An argument is out of range.")
    static void promise02_anIdentifierThatIsTooSmall(Due due) {
        for (int identifier : new int[] {-1, -7, -65535, -65536, Integer.MIN_VALUE}) {
            due.refused(() -> Made.turned(5), "addNode(" + identifier + ")", x -> x.addNode(identifier), -2);
            due.is("first: addNode(" + identifier + ")", new ColourReduction().addNode(identifier), -2);
        }
    }

    @Says("An argument is out of range.")
    static void promise02_anIdentifierThatIsTooLarge(Due due) {
        for (int identifier : new int[] {65536, 65537, 131072, Integer.MAX_VALUE}) {
            due.refused(() -> Made.turned(5), "addNode(" + identifier + ")", x -> x.addNode(identifier), -2);
            due.is("first: addNode(" + identifier + ")", new ColourReduction().addNode(identifier), -2);
        }
    }

    @Says("The identifier belongs to a node already.")
    static void promise02_theIdentifierOfAnotherNode(Due due) {
        for (int identifier = 100; identifier < 105; identifier++) {
            int taken = identifier;
            due.refused(() -> Made.turned(5), "addNode(" + taken + ")", x -> x.addNode(taken), -3);
        }
        due.is("addNode(99) beside the taken ones", Made.turned(5).addNode(99), 5);
        due.is("addNode(105) beside the taken ones", Made.turned(5).addNode(105), 5);
    }

    @Says("no two nodes have the same identifier")
    static void promise02_theIdentifierOfANodeOfAnotherColour(Due due) {
        ColourReduction x = Made.nodes(5, 6);
        x.setColour(0, 99);
        due.is("addNode(5)", x.addNode(5), -3);
        due.is("addNode(99), only a colour", x.addNode(99), 2);
    }

    @Says("There are up to 24 nodes")
    static void promise02_twentyFourNodes(Due due) {
        ColourReduction x = new ColourReduction();
        for (int i = 0; i < 24; i++) {
            due.is("addNode with " + i + " there", x.addNode(100 + i), i);
        }
        due.is("colour(23)", x.colour(23), 123);
        due.is("colour(24)", x.colour(24), -1);
    }

    @Says("There are already 24 nodes.")
    static void promise02_aTwentyFifthNode(Due due) {
        due.refused(() -> Made.turned(24), "full: addNode(5)", x -> x.addNode(5), -4);
        due.refused(() -> Made.turned(24), "full: addNode(0)", x -> x.addNode(0), -4);
        due.refused(() -> Made.turned(24), "full: addNode(65535)", x -> x.addNode(65535), -4);
        due.is("addNode(5) with 23 there", Made.turned(23).addNode(5), 23);
    }

    @Says("Each method lists its errors in the order in which they are checked")
    static void promise02_badValueComesBeforeFull(Due due) {
        due.refused(() -> Made.turned(24), "full: addNode(-1)", x -> x.addNode(-1), -2);
        due.refused(() -> Made.turned(24), "full: addNode(65536)", x -> x.addNode(65536), -2);
    }

    @Says("Each method lists its errors in the order in which they are checked")
    static void promise02_duplicateComesBeforeFull(Due due) {
        due.refused(() -> Made.turned(24), "full: addNode(100)", x -> x.addNode(100), -3);
        due.refused(() -> Made.turned(24), "full: addNode(123)", x -> x.addNode(123), -3);
    }

    @Says("Adds a node without a parent.")
    static void promise02_aNewNodeHasNoParent(Due due) {
        ColourReduction x = Made.turned(23);
        due.is("addNode(5)", x.addNode(5), 23);
        due.is("parent(23)", x.parent(23), -7);
        due.is("degree(23)", x.degree(23), 0);
        due.is("partCount()", x.partCount(), 2);
        due.is("parent of the first node", Made.nodes(8).parent(0), -7);
    }

    @Says("The colour of a new node is its identifier.")
    static void promise02_theColourOfANewNode(Due due) {
        ColourReduction x = Made.turned(3);
        due.is("addNode(7)", x.addNode(7), 3);
        due.colours("after 20 rounds", x, 102, 100, 101, 7);
        x.shift();
        due.is("shift: pastColour(3, 1)", x.pastColour(3, 1), 7);
    }

    @Says("A successful call of addNode, setParent, removeParent, setColour, resetColours or recolour"
            + " starts a new count")
    static void promise02_aNewNodeStartsANewCount(Due due) {
        due.startsACount(() -> Made.turned(5), "addNode(5)", x -> x.addNode(5), 5);
    }

    // ---- promise 3: setParent

    @Says("Returns the number of the previous parent, NONE if there was none")
    static void promise03_noPreviousParent(Due due) {
        ColourReduction x = Made.nodes(5, 6, 7);
        due.is("setParent(0, 2)", x.setParent(0, 2), -7);
        due.is("parent(0)", x.parent(0), 2);
        x.removeParent(0);
        due.is("setParent(0, 1) after removeParent", x.setParent(0, 1), -7);
    }

    @Says("in place of the one that it has, if it has one")
    static void promise03_inPlaceOfThePreviousParent(Due due) {
        ColourReduction x = Made.path(5, 6, 7);
        due.is("setParent(1, 2)", x.setParent(1, 2), 0);
        due.is("parent(1)", x.parent(1), 2);
        due.is("setParent(1, 0)", x.setParent(1, 0), 2);
        due.is("degree(2) without its child", x.degree(2), 1);
        due.colours("the colours stay", x, 5, 6, 7);
    }

    @Says("NO_SUCH_NODE if node or parent does not exist")
    static void promise03_noSuchNode(Due due) {
        due.noSuchNode("setParent", (x, node) -> x.setParent(node, 0));
        due.noSuchNode("setParent, to node 4,", (x, node) -> x.setParent(node, 4));
    }

    @Says("NO_SUCH_NODE if node or parent does not exist")
    static void promise03_noSuchParent(Due due) {
        due.noSuchNode("setParent, of node 0,", (x, parent) -> x.setParent(0, parent));
        due.noSuchNode("setParent, of node 4,", (x, parent) -> x.setParent(4, parent));
    }

    @Says("NO_SUCH_NODE if node or parent does not exist")
    static void promise03_neitherNodeNorParent(Due due) {
        due.refused(() -> Made.turned(3), "setParent(3, 4)", x -> x.setParent(3, 4), -1);
        due.refused(() -> Made.turned(3), "setParent(-1, 3)", x -> x.setParent(-1, 3), -1);
        due.refused(() -> Made.turned(24), "setParent(MIN, MAX)",
                x -> x.setParent(Integer.MIN_VALUE, Integer.MAX_VALUE), -1);
    }

    @Says("BAD_VALUE if both are the same node")
    static void promise03_itsOwnParent(Due due) {
        for (int node = 0; node < 24; node++) {
            int same = node;
            due.refused(() -> Made.turned(24), "setParent(" + node + ", " + node + ")",
                    x -> x.setParent(same, same), -2);
        }
        due.refused(() -> Made.nodes(5), "lone: setParent(0, 0)", x -> x.setParent(0, 0), -2);
    }

    @Says("Each method lists its errors in the order in which they are checked")
    static void promise03_noSuchNodeComesBeforeBadValue(Due due) {
        due.noSuchNode("setParent, both the same,", (x, node) -> x.setParent(node, node));
    }

    @Says("all of them are checked before NONE is returned")
    static void promise03_errorsComeBeforeNone(Due due) {
        due.refused(() -> Made.nodes(5, 6), "root: setParent(0, 2)", x -> x.setParent(0, 2), -1);
        due.refused(() -> Made.nodes(5, 6), "root: setParent(0, NONE)", x -> x.setParent(0, -7), -1);
        due.refused(() -> Made.nodes(5, 6), "root: setParent(0, 0)", x -> x.setParent(0, 0), -2);
    }

    @Says("Parents may form cycles")
    static void promise03_aCycle(Due due) {
        ColourReduction x = Made.path(5, 6, 7);
        due.is("setParent(0, 2) closes a cycle", x.setParent(0, 2), -7);
        due.is("parent(0)", x.parent(0), 2);
        due.is("parent(1)", x.parent(1), 0);
        due.is("parent(2)", x.parent(2), 1);
        due.is("setParent(0, 1) closes a shorter one", x.setParent(0, 1), 2);
        due.is("cycleLength(0)", x.cycleLength(0), 2);
    }

    @Says("starts a new count, even if it changes nothing")
    static void promise03_startsANewCount(Due due) {
        due.startsACount(() -> Made.turned(5), "setParent(3, 1)", x -> x.setParent(3, 1), 4);
        due.startsACount(() -> Made.turned(5), "setParent(3, 4), as it is", x -> x.setParent(3, 4), 4);
        due.startsACount(() -> Made.turnedPath(5), "setParent(0, 3)", x -> x.setParent(0, 3), -7);
    }

    // ---- promise 4: removeParent

    @Says("Makes a node a root.")
    static void promise04_aNodeBecomesARoot(Due due) {
        ColourReduction x = Made.path(5, 6, 7);
        due.is("removeParent(1)", x.removeParent(1), 0);
        due.is("parent(1)", x.parent(1), -7);
        due.is("depth(1)", x.depth(1), 0);
        due.is("parent(2) stays", x.parent(2), 1);
        due.is("degree(0)", x.degree(0), 0);
        due.colours("the colours stay", x, 5, 6, 7);
    }

    @Says("Returns the number of the previous parent, NONE if there was none")
    static void promise04_aRootHasNoPreviousParent(Due due) {
        ColourReduction x = Made.path(5, 6, 7);
        due.is("removeParent(0)", x.removeParent(0), -7);
        due.is("removeParent(2)", x.removeParent(2), 1);
        due.is("removeParent(2) again", x.removeParent(2), -7);
        due.is("parent(1) stays", x.parent(1), 0);
    }

    @Says("There is no such node.")
    static void promise04_noSuchNode(Due due) {
        due.noSuchNode("removeParent", ColourReduction::removeParent);
    }

    @Says("starts a new count, even if it changes nothing")
    static void promise04_startsANewCount(Due due) {
        due.startsACount(() -> Made.turned(5), "removeParent(3)", x -> x.removeParent(3), 4);
        due.startsACount(() -> Made.turnedPath(5), "removeParent(0) of a root", x -> x.removeParent(0), -7);
    }

    // ---- promise 5: parent

    @Says("NONE if it is a root")
    static void promise05_aRootHasNone(Due due) {
        ColourReduction x = Made.path(5, 6, 7);
        due.is("parent(0)", x.parent(0), -7);
        due.is("parent(1)", x.parent(1), 0);
        due.is("parent(2)", x.parent(2), 1);
    }

    @Says("Returns the number of its parent")
    static void promise05_theFirstAndTheLastNodeAsParents(Due due) {
        ColourReduction x = Made.cycle(Made.from(0, 24));
        due.is("parent(22)", x.parent(22), 23);
        due.is("parent(23)", x.parent(23), 0);
    }

    @Says("There is no such node.")
    static void promise05_noSuchNode(Due due) {
        due.noSuchNode("parent", ColourReduction::parent);
    }

    // ---- promise 6: degree

    @Says("The neighbours of a node are its parent, if it has one, and its children.")
    static void promise06_noNeighbours(Due due) {
        due.is("the only node", Made.nodes(5).degree(0), 0);
        due.is("the first of lone nodes", Made.nodes(5, 6, 7).degree(0), 0);
        due.is("the last of lone nodes", Made.nodes(5, 6, 7).degree(2), 0);
    }

    @Says("The neighbours of a node are its parent, if it has one, and its children.")
    static void promise06_parentAndChildren(Due due) {
        ColourReduction x = Made.path(5, 6, 7, 8);
        due.is("a root with a child", x.degree(0), 1);
        due.is("a parent and a child", x.degree(1), 2);
        due.is("a parent alone", x.degree(3), 1);
        x.setParent(3, 1);
        due.is("a parent and two children", x.degree(1), 3);
        due.is("a node of a cycle of three", Made.cycle(5, 6, 7).degree(2), 2);
    }

    @Says("There are up to 24 nodes")
    static void promise06_asManyNeighboursAsThereCanBe(Due due) {
        ColourReduction x = Made.star(Made.from(0, 24));
        due.is("the middle of a star", x.degree(0), 23);
        due.is("its first leaf", x.degree(1), 1);
        due.is("its last leaf", x.degree(23), 1);
    }

    @Says("If two nodes are the parents of each other, each is a neighbour of the other one,"
            + " and they count as one neighbour.")
    static void promise06_parentsOfEachOther(Due due) {
        ColourReduction two = Made.cycle(5, 6);
        due.is("two: degree(0)", two.degree(0), 1);
        due.is("two: degree(1)", two.degree(1), 1);
        ColourReduction star = Made.star(Made.from(0, 24));
        star.setParent(0, 7);
        due.is("star: degree(0)", star.degree(0), 23);
        due.is("star: degree(7)", star.degree(7), 1);
    }

    @Says("There is no such node.")
    static void promise06_noSuchNode(Due due) {
        due.noSuchNode("degree", ColourReduction::degree);
    }

    // ---- promise 7: depth

    @Says("0 for a root")
    static void promise07_aRoot(Due due) {
        due.is("a lone node", Made.nodes(5).depth(0), 0);
        due.is("the root of a path", Made.path(5, 6, 7).depth(0), 0);
        ColourReduction x = Made.cycle(5, 6, 7);
        x.removeParent(1);
        due.is("a node cut from its cycle", x.depth(1), 0);
        due.is("the farthest from it", x.depth(2), 2);
    }

    @Says("Returns the number of steps from the node along parents to a root")
    static void promise07_theLongestPath(Due due) {
        ColourReduction down = Made.path(Made.from(0, 24));
        ColourReduction up = Made.cycle(Made.from(0, 24));
        up.removeParent(23);
        for (int i = 0; i < 24; i++) {
            due.is("down: depth(" + i + ")", down.depth(i), i);
            due.is("up: depth(" + i + ")", up.depth(i), 23 - i);
        }
    }

    @Says("NONE if they lead to a cycle")
    static void promise07_onACycle(Due due) {
        ColourReduction two = Made.cycle(5, 6);
        due.is("two: depth(0)", two.depth(0), -7);
        due.is("two: depth(1)", two.depth(1), -7);
        ColourReduction all = Made.cycle(Made.from(0, 24));
        due.is("all: depth(0)", all.depth(0), -7);
        due.is("all: depth(23)", all.depth(23), -7);
    }

    @Says("NONE if they lead to a cycle")
    static void promise07_behindACycle(Due due) {
        ColourReduction x = Made.path(Made.from(0, 24));
        x.setParent(0, 1);
        due.is("next to the cycle: depth(2)", x.depth(2), -7);
        due.is("far behind the cycle: depth(23)", x.depth(23), -7);
    }

    @Says("There is no such node.")
    static void promise07_noSuchNode(Due due) {
        due.noSuchNode("depth", ColourReduction::depth);
    }

    // ---- promise 8: cycleLength

    @Says("Returns the number of nodes of the cycle that the node belongs to")
    static void promise08_cyclesOfEachLength(Due due) {
        for (int length = 2; length <= 24; length++) {
            ColourReduction x = Made.cycle(Made.from(0, length));
            due.is(length + " nodes: cycleLength(0)", x.cycleLength(0), length);
            due.is(length + " nodes: cycleLength of the last", x.cycleLength(length - 1), length);
        }
    }

    @Says("NONE if it belongs to no cycle")
    static void promise08_onATree(Due due) {
        ColourReduction x = Made.path(Made.from(0, 24));
        due.is("the root", x.cycleLength(0), -7);
        due.is("in the middle", x.cycleLength(12), -7);
        due.is("the end", x.cycleLength(23), -7);
        due.is("a lone node", Made.nodes(5).cycleLength(0), -7);
    }

    @Says("NONE if it belongs to no cycle")
    static void promise08_behindACycle(Due due) {
        ColourReduction x = Made.path(Made.from(0, 24));
        x.setParent(0, 20);
        due.is("the cycle's first node", x.cycleLength(0), 21);
        due.is("the cycle's last node", x.cycleLength(20), 21);
        due.is("next to the cycle", x.cycleLength(21), -7);
        x.setParent(0, 1);
        due.is("the shorter cycle", x.cycleLength(1), 2);
        due.is("next to the shorter cycle", x.cycleLength(2), -7);
        due.is("far behind the shorter cycle", x.cycleLength(23), -7);
    }

    @Says("There is no such node.")
    static void promise08_noSuchNode(Due due) {
        due.noSuchNode("cycleLength", ColourReduction::cycleLength);
    }

    // ---- promise 9: partCount

    @Says("Returns the number of connected parts of the graph.")
    static void promise09_noParts(Due due) {
        due.is("partCount()", new ColourReduction().partCount(), 0);
    }

    @Says("Returns the number of connected parts of the graph.")
    static void promise09_asManyPartsAsNodes(Due due) {
        due.is("one node", Made.nodes(5).partCount(), 1);
        due.is("all nodes alone", Made.nodes(Made.from(0, 24)).partCount(), 24);
    }

    @Says("Returns the number of connected parts of the graph.")
    static void promise09_onePartOfAllNodes(Due due) {
        due.is("a path", Made.path(Made.from(0, 24)).partCount(), 1);
        due.is("a cycle", Made.cycle(Made.from(0, 24)).partCount(), 1);
        due.is("a star", Made.star(Made.from(0, 24)).partCount(), 1);
        ColourReduction up = Made.cycle(Made.from(0, 24));
        up.removeParent(23);
        due.is("a path with its root at the end", up.partCount(), 1);
        due.is("two parents of each other", Made.cycle(5, 6).partCount(), 1);
    }

    @Says("a connected part of the graph is either a tree with one root or has exactly one cycle")
    static void promise09_treesAndCycles(Due due) {
        ColourReduction x = Made.nodes(Made.from(0, 6));
        x.setParent(5, 0);
        x.setParent(4, 5);
        due.is("with a tree", x.partCount(), 4);
        x.setParent(1, 2);
        x.setParent(2, 1);
        due.is("with a cycle of two", x.partCount(), 3);
        x.setParent(3, 1);
        due.is("with a tail", x.partCount(), 2);
        x.setParent(0, 3);
        due.is("when all are joined", x.partCount(), 1);
        x.removeParent(1);
        due.is("with the cycle cut", x.partCount(), 1);
        x.removeParent(5);
        due.is("with an edge cut", x.partCount(), 2);
    }
}
