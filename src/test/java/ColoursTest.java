/** Promises 10 to 17: the colours. */
public final class ColoursTest {
    private static final Due due = new Due();

    public static void main(String[] args) {
        colour();
        setColour();
        resetColours();
        recolour();
        recolourWithManyNeighbours();
        colourCount();
        greatestColour();
        conflictCount();
        differingBit();
        colourChangesStartANewCount();
        due.end();
    }

    private static void colour() {
        ColourReduction x = Due.nodes(0, 65535);
        due.is("colour(0)", x.colour(0), 0);
        due.is("colour(1)", x.colour(1), 65535);
        due.is("colour(2)", x.colour(2), -1);
        due.is("colour(-1)", x.colour(-1), -1);
        due.is("colour(MIN)", x.colour(Integer.MIN_VALUE), -1);
        due.is("colour(MAX)", x.colour(Integer.MAX_VALUE), -1);
    }

    private static void setColour() {
        ColourReduction x = Due.path(5, 6);
        due.is("setColour(0, 0)", x.setColour(0, 0), 5);
        due.is("setColour(0, 65535)", x.setColour(0, 65535), 0);
        due.is("setColour(0, 65535) again", x.setColour(0, 65535), 65535);
        due.is("setColour(0, 65536)", x.setColour(0, 65536), -2);
        due.is("setColour(0, -1)", x.setColour(0, -1), -2);
        due.is("setColour(2, 0)", x.setColour(2, 0), -1);
        due.is("setColour(-1, 0)", x.setColour(-1, 0), -1);
        due.is("setColour(2, -1)", x.setColour(2, -1), -1);
        due.is("setColour(-1, 65536)", x.setColour(-1, 65536), -1);
        due.colours("setColour, after errors", x, 65535, 6);
        due.is("setColour to an improper colouring", x.setColour(1, 65535), 6);
        due.is("setColour: conflictCount()", x.conflictCount(), 1);
    }

    private static void resetColours() {
        ColourReduction x = Due.path(5, 6, 7);
        due.is("resetColours() of none", x.resetColours(), 0);
        x.setColour(0, 9);
        x.setColour(2, 6);
        x.setColour(1, 6);
        due.is("resetColours() of two", x.resetColours(), 2);
        due.colours("resetColours", x, 5, 6, 7);
        x.reduceToThree();
        x.resetColours();
        due.colours("resetColours after rounds", x, 5, 6, 7);
    }

    private static void recolour() {
        ColourReduction x = Due.path(0, 5, 1);
        due.is("recolour(1) between 0 and 1", x.recolour(1), 2);
        due.is("recolour(1): colour(1)", x.colour(1), 2);
        due.is("recolour(1) again", x.recolour(1), 2);
        due.is("recolour(0), a colour of its own", x.recolour(0), 0);
        due.is("recolour(2) below 2", x.recolour(2), 0);
        due.is("recolour(3)", x.recolour(3), -1);
        due.is("recolour(-1)", x.recolour(-1), -1);
        ColourReduction lone = Due.nodes(0, 1);
        due.is("recolour of a lone node", lone.recolour(1), 0);
        due.is("recolour of a lone node of colour 0", lone.recolour(0), 0);
    }

    private static void recolourWithManyNeighbours() {
        ColourReduction star = Due.numbered(24);
        for (int i = 0; i < 23; i++) {
            star.setParent(i, 23);
        }
        due.is("recolour of a star's middle", star.recolour(23), 23);
        star.setColour(11, 23);
        due.is("recolour with 11 free", star.recolour(23), 11);
        star.setParent(23, 0);
        star.setColour(0, 11);
        due.is("recolour with a child as the parent", star.recolour(23), 0);
    }

    private static void colourCount() {
        ColourReduction x = Due.nodes(5, 6, 7, 8);
        due.is("colourCount() of four", x.colourCount(), 4);
        x.setColour(3, 5);
        due.is("colourCount() of three", x.colourCount(), 3);
        x.setColour(1, 7);
        due.is("colourCount() of two", x.colourCount(), 2);
        x.setColour(1, 5);
        x.setColour(2, 5);
        due.is("colourCount() of one", x.colourCount(), 1);
    }

    private static void greatestColour() {
        ColourReduction x = new ColourReduction();
        due.is("greatestColour() without nodes", x.greatestColour(), -7);
        x.addNode(0);
        due.is("greatestColour() of 0", x.greatestColour(), 0);
        x.addNode(65535);
        x.addNode(5);
        due.is("greatestColour() in the middle", x.greatestColour(), 65535);
        x.setColour(1, 3);
        due.is("greatestColour() at the end", x.greatestColour(), 5);
        x.setColour(0, 6);
        due.is("greatestColour() at the start", x.greatestColour(), 6);
    }

    private static void conflictCount() {
        ColourReduction x = Due.path(5, 6, 7, 8);
        due.is("conflictCount() of none", x.conflictCount(), 0);
        x.setColour(1, 5);
        due.is("conflictCount() of one", x.conflictCount(), 1);
        x.setColour(3, 5);
        due.is("conflictCount() of nodes apart", x.conflictCount(), 1);
        x.setColour(2, 5);
        due.is("conflictCount() of three", x.conflictCount(), 3);
        x.setParent(0, 1);
        due.is("conflictCount() of each other's parents", x.conflictCount(), 4);
        ColourReduction siblings = Due.nodes(1, 2, 3);
        siblings.setParent(1, 0);
        siblings.setParent(2, 0);
        siblings.setColour(2, 2);
        due.is("conflictCount() of siblings", siblings.conflictCount(), 0);
    }

    private static void differingBit() {
        ColourReduction x = Due.path(0, 32768, 32769, 32773);
        due.is("differingBit of a root", x.differingBit(0), 0);
        due.is("differingBit 15", x.differingBit(1), 15);
        due.is("differingBit 0", x.differingBit(2), 0);
        due.is("differingBit 2", x.differingBit(3), 2);
        x.setColour(2, 32768);
        due.is("differingBit of a conflict", x.differingBit(2), -5);
        due.is("differingBit with a conflict elsewhere", x.differingBit(3), 0);
        due.is("differingBit of a parent in conflict", x.differingBit(1), 15);
        due.is("differingBit(4)", x.differingBit(4), -1);
        due.is("differingBit(-1)", x.differingBit(-1), -1);
        due.is("differingBit: colour(1) is kept", x.colour(1), 32768);
    }

    private static void colourChangesStartANewCount() {
        ColourReduction x = Due.path(5, 6);
        x.shift();
        x.setColour(0, -1);
        x.setColour(2, 1);
        x.recolour(2);
        due.is("roundCount() after errors", x.roundCount(), 1);
        due.is("pastColour(1, 1) after errors", x.pastColour(1, 1), 6);
        x.setColour(0, 0);
        due.is("roundCount() after the same setColour", x.roundCount(), 0);
        due.is("pastColour(1, 1) after setColour", x.pastColour(1, 1), -7);
        x.resetColours();
        x.shift();
        x.resetColours();
        due.is("roundCount() after resetColours", x.roundCount(), 0);
        due.is("pastColour(1, 1) after resetColours", x.pastColour(1, 1), -7);
        x.shift();
        x.recolour(0);
        due.is("roundCount() after recolour that changes nothing", x.roundCount(), 0);
        due.is("pastColour(1, 1) after recolour", x.pastColour(1, 1), -7);
    }
}
