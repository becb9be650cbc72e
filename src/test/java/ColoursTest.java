/** Promises 10 to 17: the colours. */
public final class ColoursTest {
    public static void main(String[] args) {
        Due.run(ColoursTest.class);
    }

    // ---- promise 10: colour

    @Says("Each node has a colour from 0 to 65535.")
    static void promise10_theSmallestAndTheGreatestColour(Due due) {
        ColourReduction x = Made.nodes(0, 65535, 7);
        due.colours("identifiers", x, 0, 65535, 7);
        x.setColour(2, 65535);
        x.setColour(1, 0);
        due.colours("colours that were set", x, 0, 0, 65535);
    }

    @Says("There is no such node.")
    static void promise10_noSuchNode(Due due) {
        due.noSuchNode("colour", ColourReduction::colour);
    }

    // ---- promise 11: setColour

    @Says("Returns the previous colour")
    static void promise11_theSmallestAndTheGreatestColour(Due due) {
        ColourReduction x = Made.nodes(5);
        due.is("setColour(0, 0)", x.setColour(0, 0), 5);
        due.is("colour(0) of 0", x.colour(0), 0);
        due.is("setColour(0, 65535)", x.setColour(0, 65535), 0);
        due.is("colour(0) of 65535", x.colour(0), 65535);
        due.is("setColour(0, 6)", x.setColour(0, 6), 65535);
    }

    @Says("An argument is out of range.")
    static void promise11_aColourThatIsTooSmall(Due due) {
        for (int colour : new int[] {-1, -7, -65536, Integer.MIN_VALUE}) {
            due.refused(() -> Made.turned(5), "setColour(3, " + colour + ")", x -> x.setColour(3, colour), -2);
        }
    }

    @Says("An argument is out of range.")
    static void promise11_aColourThatIsTooLarge(Due due) {
        for (int colour : new int[] {65536, 65537, 131072, Integer.MAX_VALUE}) {
            due.refused(() -> Made.turned(5), "setColour(3, " + colour + ")", x -> x.setColour(3, colour), -2);
        }
    }

    @Says("There is no such node.")
    static void promise11_noSuchNode(Due due) {
        due.noSuchNode("setColour to 0", (x, node) -> x.setColour(node, 0));
    }

    @Says("Each method lists its errors in the order in which they are checked")
    static void promise11_noSuchNodeComesBeforeBadValue(Due due) {
        due.noSuchNode("setColour to -1", (x, node) -> x.setColour(node, -1));
        due.noSuchNode("setColour to 65536", (x, node) -> x.setColour(node, 65536));
    }

    @Says("The colouring may become improper.")
    static void promise11_theColourOfTheParentOrAChild(Due due) {
        ColourReduction x = Made.path(5, 6, 7);
        due.is("setColour(1, 5), as its parent", x.setColour(1, 5), 6);
        due.is("colour(1)", x.colour(1), 5);
        due.is("conflictCount()", x.conflictCount(), 1);
        due.is("setColour(1, 7), as its child", x.setColour(1, 7), 5);
        due.is("conflictCount() with the child", x.conflictCount(), 1);
    }

    @Says("Sets the colour of a node.")
    static void promise11_otherNodesKeepTheirColours(Due due) {
        for (int node = 0; node < 24; node++) {
            ColourReduction x = Made.cycle(Made.from(100, 24));
            int[] want = Made.from(100, 24);
            want[node] = 65535;
            due.is("setColour(" + node + ", 65535)", x.setColour(node, 65535), 100 + node);
            due.colours("setColour(" + node + ", 65535)", x, want);
        }
    }

    @Says("starts a new count, even if it changes nothing")
    static void promise11_startsANewCount(Due due) {
        due.startsACount(() -> Made.turned(5), "setColour(3, 7)", x -> x.setColour(3, 7), 103);
        due.startsACount(() -> Made.turned(5), "setColour(3, 103), as it is", x -> x.setColour(3, 103), 103);
    }

    // ---- promise 12: resetColours

    @Says("Returns the number of nodes whose colour changed.")
    static void promise12_noNodes(Due due) {
        due.is("resetColours()", new ColourReduction().resetColours(), 0);
    }

    @Says("Returns the number of nodes whose colour changed.")
    static void promise12_noColourChanged(Due due) {
        ColourReduction x = Made.path(5, 6, 7);
        due.is("resetColours()", x.resetColours(), 0);
        x.setColour(1, 9);
        x.setColour(1, 6);
        due.is("resetColours() when a colour came back", x.resetColours(), 0);
        due.colours("as before", x, 5, 6, 7);
    }

    @Says("Makes the identifier of each node its colour.")
    static void promise12_someColoursChanged(Due due) {
        ColourReduction x = Made.path(5, 6, 7);
        x.setColour(0, 9);
        x.setColour(2, 6);
        due.is("resetColours()", x.resetColours(), 2);
        due.colours("identifiers again", x, 5, 6, 7);
        due.is("resetColours() again", x.resetColours(), 0);
    }

    @Says("Makes the identifier of each node its colour.")
    static void promise12_allColoursChanged(Due due) {
        ColourReduction x = Made.turned(24);
        due.is("resetColours()", x.resetColours(), 24);
        due.colours("identifiers again", x, Made.from(100, 24));
    }

    @Says("starts a new count, even if it changes nothing")
    static void promise12_startsANewCount(Due due) {
        due.startsACount(() -> Made.turned(6), "resetColours()", ColourReduction::resetColours, 6);
        due.startsACount(() -> Made.turned(5), "resetColours() of no change", ColourReduction::resetColours, 0);
        ColourReduction empty = Made.turned(0);
        due.is("no nodes: roundCount()", empty.roundCount(), 20);
        empty.resetColours();
        due.is("no nodes: roundCount() after resetColours", empty.roundCount(), 0);
    }

    // ---- promise 13: recolour

    @Says("Gives a node the lowest colour from 0 on that no neighbour of it has.")
    static void promise13_noNeighbours(Due due) {
        ColourReduction x = Made.nodes(0, 1, 65535);
        due.is("recolour(0), as it is", x.recolour(0), 0);
        due.is("recolour(1)", x.recolour(1), 0);
        due.is("recolour(2)", x.recolour(2), 0);
        due.colours("all 0", x, 0, 0, 0);
    }

    @Says("Gives a node the lowest colour from 0 on that no neighbour of it has.")
    static void promise13_parentAndChildrenAreNeighbours(Due due) {
        ColourReduction x = Made.path(0, 5, 1);
        due.is("recolour(1) between 0 and 1", x.recolour(1), 2);
        due.is("colour(1)", x.colour(1), 2);
        due.is("recolour(1), its own colour is free", x.recolour(1), 2);
        due.is("recolour(0) with child 2", x.recolour(0), 0);
        due.is("recolour(2) with parent 2", x.recolour(2), 0);
        due.is("recolour(1) between 0 and 0", x.recolour(1), 1);
        due.is("recolour(0) with child 1", x.recolour(0), 0);
    }

    @Says("Gives a node the lowest colour from 0 on that no neighbour of it has.")
    static void promise13_asManyNeighboursAsThereCanBe(Due due) {
        ColourReduction x = Made.star(Made.from(0, 24));
        for (int leaf = 1; leaf < 24; leaf++) {
            x.setColour(leaf, leaf - 1);
        }
        due.is("recolour(0) with 0 to 22 taken", x.recolour(0), 23);
        x.setColour(23, 65535);
        due.is("recolour(0) with 22 free", x.recolour(0), 22);
        x.setColour(12, 23);
        due.is("recolour(0) with 11 free", x.recolour(0), 11);
        x.setColour(1, 11);
        due.is("recolour(0) with 0 free", x.recolour(0), 0);
    }

    @Says("each is a neighbour of the other one")
    static void promise13_parentsOfEachOther(Due due) {
        ColourReduction x = Made.cycle(0, 1);
        due.is("recolour(1), as it is", x.recolour(1), 1);
        x.setColour(0, 1);
        due.is("recolour(1) beside 1", x.recolour(1), 0);
        due.is("recolour(0) beside 0", x.recolour(0), 1);
    }

    @Says("There is no such node.")
    static void promise13_noSuchNode(Due due) {
        due.noSuchNode("recolour", ColourReduction::recolour);
    }

    @Says("starts a new count, even if it changes nothing")
    static void promise13_startsANewCount(Due due) {
        due.startsACount(() -> Made.turned(5), "recolour(3)", x -> x.recolour(3), 0);
        due.startsACount(() -> Made.turnedPath(5), "recolour(0), as it is", x -> x.recolour(0), 1);
        due.is("colour(0) before it", Made.turnedPath(5).colour(0), 1);
    }

    // ---- promise 14: colourCount

    @Says("Returns the number of different colours of all nodes.")
    static void promise14_noNodes(Due due) {
        due.is("colourCount()", new ColourReduction().colourCount(), 0);
    }

    @Says("Returns the number of different colours of all nodes.")
    static void promise14_fromOneColourToAllDifferent(Due due) {
        ColourReduction x = Made.nodes(Made.from(0, 24));
        for (int node = 0; node < 24; node++) {
            x.setColour(node, 65535);
        }
        due.is("one colour", x.colourCount(), 1);
        for (int node = 0; node < 23; node++) {
            x.setColour(node, node);
            due.is("node " + node + " has another one", x.colourCount(), node + 2);
        }
        x.setColour(23, 0);
        due.is("the first and the last alike", x.colourCount(), 23);
    }

    // ---- promise 15: greatestColour

    @Says("NONE if there are no nodes")
    static void promise15_noNodes(Due due) {
        due.is("greatestColour()", new ColourReduction().greatestColour(), -7);
    }

    @Says("Returns the greatest colour of all nodes")
    static void promise15_fromTheSmallestToTheGreatest(Due due) {
        ColourReduction x = Made.nodes(0);
        due.is("0 alone", x.greatestColour(), 0);
        x.addNode(65535);
        x.addNode(5);
        due.is("in the middle", x.greatestColour(), 65535);
        x.setColour(1, 3);
        due.is("at the end", x.greatestColour(), 5);
        x.setColour(0, 6);
        due.is("at the start", x.greatestColour(), 6);
        due.is("at the end of 24", Made.nodes(Made.from(0, 24)).greatestColour(), 23);
    }

    // ---- promise 16: conflictCount

    @Says("0 if the colouring is proper")
    static void promise16_aProperColouring(Due due) {
        due.is("no nodes", new ColourReduction().conflictCount(), 0);
        due.is("a lone node", Made.nodes(0).conflictCount(), 0);
        due.is("a path", Made.path(5, 6, 7).conflictCount(), 0);
        due.is("a cycle", Made.cycle(5, 6, 7).conflictCount(), 0);
    }

    @Says("The colouring is proper if no node has the same colour as its parent.")
    static void promise16_theSameColourApart(Due due) {
        ColourReduction roots = Made.nodes(5, 6, 7);
        roots.setColour(1, 5);
        roots.setColour(2, 5);
        due.is("roots", roots.conflictCount(), 0);
        ColourReduction siblings = Made.star(5, 6, 7);
        siblings.setColour(2, 6);
        due.is("siblings", siblings.conflictCount(), 0);
        ColourReduction path = Made.path(5, 6, 7);
        path.setColour(2, 5);
        due.is("a node and the parent of its parent", path.conflictCount(), 0);
    }

    @Says("Counts the nodes that have the same colour as their parent.")
    static void promise16_conflicts(Due due) {
        ColourReduction x = Made.path(5, 6, 7, 8);
        x.setColour(1, 5);
        due.is("one node", x.conflictCount(), 1);
        x.setColour(3, 5);
        due.is("a node apart", x.conflictCount(), 1);
        x.setColour(2, 5);
        due.is("all but the root", x.conflictCount(), 3);
        ColourReduction star = Made.star(Made.from(0, 24));
        for (int leaf = 1; leaf < 24; leaf++) {
            star.setColour(leaf, 0);
        }
        due.is("all leaves of a star", star.conflictCount(), 23);
        star.setParent(0, 23);
        due.is("all 24 nodes", star.conflictCount(), 24);
    }

    @Says("Counts the nodes that have the same colour as their parent.")
    static void promise16_parentsOfEachOtherAreTwo(Due due) {
        ColourReduction x = Made.cycle(5, 6);
        x.setColour(0, 6);
        due.is("conflictCount()", x.conflictCount(), 2);
    }

    // ---- promise 17: differingBit

    @Says("For a root, i is 0.")
    static void promise17_aRoot(Due due) {
        due.is("of colour 0", Made.nodes(0).differingBit(0), 0);
        due.is("of colour 32768", Made.nodes(32768).differingBit(0), 0);
        due.is("with a child", Made.path(4, 6).differingBit(0), 0);
    }

    @Says("numbered from 0 for the bit of value 1")
    static void promise17_eachBit(Due due) {
        for (int bit = 0; bit < 16; bit++) {
            due.is("0 under " + (1 << bit), Made.path(1 << bit, 0).differingBit(1), bit);
            due.is((1 << bit) + " under 0", Made.path(0, 1 << bit).differingBit(1), bit);
            due.is("65535 under all but bit " + bit, Made.path(65535 - (1 << bit), 65535).differingBit(1), bit);
        }
    }

    @Says("the lowest bit (numbered from 0 for the bit of value 1) in which its colour and the colour"
            + " of its parent differ")
    static void promise17_theLowestOfSeveralBits(Due due) {
        due.is("all 16 bits", Made.path(0, 65535).differingBit(1), 0);
        due.is("bits 3, 5 and 15", Made.path(7, 7 + 8 + 32 + 32768).differingBit(1), 3);
        due.is("bits 14 and 15", Made.path(49152, 0).differingBit(1), 14);
        ColourReduction two = Made.cycle(4, 6);
        due.is("parents of each other: node 0", two.differingBit(0), 1);
        due.is("parents of each other: node 1", two.differingBit(1), 1);
    }

    @Says("NOT_PROPER if the node has the same colour as its parent")
    static void promise17_theColourOfTheParent(Due due) {
        for (int colour : new int[] {0, 1, 32768, 65535}) {
            due.refused(() -> conflictAtNode1(colour), "differingBit(1) of two " + colour,
                    x -> x.differingBit(1), -5);
        }
        due.refused(() -> Made.turnedImproper(5), "differingBit(0) after rounds", x -> x.differingBit(0), -5);
    }

    private static ColourReduction conflictAtNode1(int colour) {
        ColourReduction x = Made.path(5, 6, 7);
        x.setColour(0, colour);
        x.setColour(1, colour);
        return x;
    }

    @Says("NOT_PROPER if the node has the same colour as its parent")
    static void promise17_aConflictElsewhere(Due due) {
        ColourReduction x = Made.path(0, 32768, 32769, 32773);
        x.setColour(2, 32768);
        due.is("the node in conflict", x.differingBit(2), -5);
        due.is("its parent", x.differingBit(1), 15);
        due.is("its child", x.differingBit(3), 0);
        due.is("the root", x.differingBit(0), 0);
        x.setColour(1, 0);
        x.setColour(2, 4);
        due.is("a root with a child in conflict", x.differingBit(0), 0);
    }

    @Says("There is no such node.")
    static void promise17_noSuchNode(Due due) {
        due.noSuchNode("differingBit", ColourReduction::differingBit);
    }

    @Says("Each method lists its errors in the order in which they are checked")
    static void promise17_noSuchNodeComesBeforeNotProper(Due due) {
        due.refused(() -> Made.turnedImproper(5), "improper: differingBit(5)", x -> x.differingBit(5), -1);
        due.refused(() -> Made.turnedImproper(5), "improper: differingBit(-1)", x -> x.differingBit(-1), -1);
    }
}
