/** Promises 1 to 9: a new object, and the graph. */
public final class GraphTest {
    private static final Due due = new Due();

    public static void main(String[] args) {
        newObject();
        addNode();
        addNodeErrorsInTheirOrder();
        setParent();
        removeParent();
        parent();
        degree();
        depth();
        cycleLength();
        partCount();
        graphChangesStartANewCount();
        due.end();
    }

    private static void newObject() {
        ColourReduction x = new ColourReduction();
        due.is("new: partCount()", x.partCount(), 0);
        due.is("new: colourCount()", x.colourCount(), 0);
        due.is("new: greatestColour()", x.greatestColour(), -7);
        due.is("new: conflictCount()", x.conflictCount(), 0);
        due.is("new: roundCount()", x.roundCount(), 0);
        due.is("new: independentSetSize()", x.independentSetSize(), 0);
        due.is("new: resetColours()", x.resetColours(), 0);
        due.is("new: colour(0)", x.colour(0), -1);
        ColourReduction other = new ColourReduction();
        x.addNode(3);
        due.is("new: a node of another object", other.colour(0), -1);
    }

    private static void addNode() {
        ColourReduction x = new ColourReduction();
        due.is("addNode(0)", x.addNode(0), 0);
        due.is("addNode(65535)", x.addNode(65535), 1);
        due.is("addNode(-1)", x.addNode(-1), -2);
        due.is("addNode(65536)", x.addNode(65536), -2);
        due.is("addNode(MIN)", x.addNode(Integer.MIN_VALUE), -2);
        due.is("addNode(MAX)", x.addNode(Integer.MAX_VALUE), -2);
        due.is("addNode(0) again", x.addNode(0), -3);
        due.is("addNode(65535) again", x.addNode(65535), -3);
        due.is("addNode(7)", x.addNode(7), 2);
        due.is("addNode: parent(2)", x.parent(2), -7);
        due.colours("addNode", x, 0, 65535, 7, -1);
        x.setColour(0, 99);
        due.is("addNode(99), a colour only", x.addNode(99), 3);
        due.is("addNode(0), recoloured", x.addNode(0), -3);
    }

    private static void addNodeErrorsInTheirOrder() {
        ColourReduction x = new ColourReduction();
        for (int i = 0; i < 24; i++) {
            due.is("addNode, " + i + " there", x.addNode(100 + i), i);
        }
        due.is("full: addNode(5)", x.addNode(5), -4);
        due.is("full: addNode(123)", x.addNode(123), -3);
        due.is("full: addNode(100)", x.addNode(100), -3);
        due.is("full: addNode(-1)", x.addNode(-1), -2);
        due.is("full: addNode(65536)", x.addNode(65536), -2);
        due.is("full: colour(23)", x.colour(23), 123);
        due.is("full: colour(24)", x.colour(24), -1);
        due.is("full: partCount()", x.partCount(), 24);
    }

    private static void setParent() {
        ColourReduction x = Due.nodes(5, 6, 7);
        due.is("setParent(0, 1)", x.setParent(0, 1), -7);
        due.is("setParent(0, 2)", x.setParent(0, 2), 1);
        due.is("setParent(0, 2) again", x.setParent(0, 2), 2);
        due.is("setParent: parent(0)", x.parent(0), 2);
        due.is("setParent(2, 0), a cycle", x.setParent(2, 0), -7);
        due.is("setParent(2, 2)", x.setParent(2, 2), -2);
        due.is("setParent(3, 0)", x.setParent(3, 0), -1);
        due.is("setParent(0, 3)", x.setParent(0, 3), -1);
        due.is("setParent(-1, 0)", x.setParent(-1, 0), -1);
        due.is("setParent(0, -1)", x.setParent(0, -1), -1);
        due.is("setParent(0, NONE)", x.setParent(0, -7), -1);
        due.is("setParent(3, 3)", x.setParent(3, 3), -1);
        due.is("setParent(-1, -1)", x.setParent(-1, -1), -1);
        due.is("setParent(MIN, MAX)", x.setParent(Integer.MIN_VALUE, Integer.MAX_VALUE), -1);
        due.is("setParent: parent(0) after errors", x.parent(0), 2);
        due.is("setParent: parent(2) after errors", x.parent(2), 0);
        due.colours("setParent", x, 5, 6, 7);
    }

    private static void removeParent() {
        ColourReduction x = Due.path(5, 6, 7);
        due.is("removeParent(1)", x.removeParent(1), 0);
        due.is("removeParent(1) again", x.removeParent(1), -7);
        due.is("removeParent(0)", x.removeParent(0), -7);
        due.is("removeParent: parent(1)", x.parent(1), -7);
        due.is("removeParent: parent(2)", x.parent(2), 1);
        due.is("removeParent(3)", x.removeParent(3), -1);
        due.is("removeParent(-1)", x.removeParent(-1), -1);
        due.colours("removeParent", x, 5, 6, 7);
    }

    private static void parent() {
        ColourReduction x = Due.path(5, 6, 7);
        due.is("parent(0)", x.parent(0), -7);
        due.is("parent(1)", x.parent(1), 0);
        due.is("parent(2)", x.parent(2), 1);
        due.is("parent(3)", x.parent(3), -1);
        due.is("parent(-1)", x.parent(-1), -1);
        due.is("parent(MAX)", x.parent(Integer.MAX_VALUE), -1);
        due.is("parent(MIN)", x.parent(Integer.MIN_VALUE), -1);
    }

    private static void degree() {
        ColourReduction star = Due.numbered(24);
        due.is("degree of a lone node", star.degree(0), 0);
        for (int i = 1; i < 24; i++) {
            star.setParent(i, 0);
        }
        due.is("degree of the middle of a star", star.degree(0), 23);
        due.is("degree of a leaf", star.degree(23), 1);
        star.setParent(0, 7);
        due.is("degree with a child as the parent", star.degree(0), 23);
        due.is("degree of that child", star.degree(7), 1);
        ColourReduction path = Due.path(5, 6, 7);
        due.is("degree on a path", path.degree(1), 2);
        due.is("degree at its root", path.degree(0), 1);
        due.is("degree(3)", path.degree(3), -1);
        due.is("degree(-1)", path.degree(-1), -1);
    }

    private static void depth() {
        ColourReduction x = Due.numbered(24);
        for (int i = 1; i < 24; i++) {
            x.setParent(i, i - 1);
        }
        for (int i = 0; i < 24; i++) {
            due.is("depth(" + i + ")", x.depth(i), i);
        }
        due.is("depth(24)", x.depth(24), -1);
        due.is("depth(-1)", x.depth(-1), -1);
        x.setParent(0, 20);
        due.is("depth on a cycle", x.depth(3), -7);
        due.is("depth behind a cycle", x.depth(23), -7);
        x.removeParent(22);
        due.is("depth of a new root", x.depth(22), 0);
        due.is("depth of its child", x.depth(23), 1);
    }

    private static void cycleLength() {
        ColourReduction x = Due.numbered(24);
        for (int i = 1; i < 24; i++) {
            x.setParent(i, i - 1);
        }
        due.is("cycleLength of a root", x.cycleLength(0), -7);
        due.is("cycleLength on a path", x.cycleLength(23), -7);
        x.setParent(0, 23);
        due.is("cycleLength of all nodes", x.cycleLength(11), 24);
        x.setParent(0, 20);
        due.is("cycleLength at its first node", x.cycleLength(0), 21);
        due.is("cycleLength at its last node", x.cycleLength(20), 21);
        due.is("cycleLength behind a cycle", x.cycleLength(21), -7);
        x.setParent(0, 1);
        due.is("cycleLength of two", x.cycleLength(1), 2);
        due.is("cycleLength behind two", x.cycleLength(2), -7);
        due.is("cycleLength(24)", x.cycleLength(24), -1);
        due.is("cycleLength(-1)", x.cycleLength(-1), -1);
    }

    private static void partCount() {
        ColourReduction x = Due.numbered(6);
        due.is("partCount of lone nodes", x.partCount(), 6);
        x.setParent(5, 0);
        x.setParent(4, 5);
        due.is("partCount with a tree", x.partCount(), 4);
        x.setParent(1, 2);
        x.setParent(2, 1);
        due.is("partCount with a cycle of two", x.partCount(), 3);
        x.setParent(3, 1);
        due.is("partCount with a tail", x.partCount(), 2);
        x.setParent(0, 3);
        due.is("partCount when all are joined", x.partCount(), 1);
        x.removeParent(1);
        due.is("partCount with the cycle cut", x.partCount(), 1);
        x.removeParent(5);
        due.is("partCount with an edge cut", x.partCount(), 2);
        ColourReduction zigzag = Due.numbered(24);
        for (int i = 0; i < 23; i++) {
            zigzag.setParent(i, i + 1);
        }
        due.is("partCount of a long path", zigzag.partCount(), 1);
    }

    private static void graphChangesStartANewCount() {
        ColourReduction x = Due.path(5, 6, 7);
        x.shift();
        x.addNode(5);
        x.addNode(-1);
        x.setParent(1, 1);
        x.setParent(1, 3);
        x.removeParent(3);
        due.is("roundCount() after errors", x.roundCount(), 1);
        due.is("pastColour(1, 1) after errors", x.pastColour(1, 1), 6);
        x.addNode(8);
        due.is("roundCount() after addNode", x.roundCount(), 0);
        due.is("pastColour(1, 1) after addNode", x.pastColour(1, 1), -7);
        due.is("colour(1) after addNode", x.colour(1), 5);
        x.shift();
        x.setParent(1, 0);
        due.is("roundCount() after the same setParent", x.roundCount(), 0);
        x.shift();
        x.removeParent(0);
        due.is("roundCount() after removeParent of a root", x.roundCount(), 0);
        due.is("pastColour(0, 1) after removeParent", x.pastColour(0, 1), -7);
    }
}
