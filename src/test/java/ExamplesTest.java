/** The four examples of the document, call by call. */
public final class ExamplesTest {
    private static final Due due = new Due();

    public static void main(String[] args) {
        reductionAlongAPath();
        threeNodesInACycle();
        improperColouring();
        errorsAndAShortPast();
        due.end();
    }

    private static void reductionAlongAPath() {
        ColourReduction x = new ColourReduction();
        due.is("1: addNode(10)", x.addNode(10), 0);
        due.is("1: addNode(44)", x.addNode(44), 1);
        due.is("1: addNode(3)", x.addNode(3), 2);
        due.is("1: setParent(1, 0)", x.setParent(1, 0), -7);
        due.is("1: setParent(2, 1)", x.setParent(2, 1), -7);
        due.is("1: differingBit(1)", x.differingBit(1), 1);
        due.is("1: differingBit(0)", x.differingBit(0), 0);
        due.is("1: reduce()", x.reduce(), 2);
        due.colours("1", x, 0, 2, 1);
        due.is("1: pastColour(1, 1)", x.pastColour(1, 1), 44);
        due.is("1: roundCount()", x.roundCount(), 1);
    }

    private static void threeNodesInACycle() {
        ColourReduction x = new ColourReduction();
        due.is("2: addNode(1)", x.addNode(1), 0);
        due.is("2: addNode(2)", x.addNode(2), 1);
        due.is("2: addNode(4)", x.addNode(4), 2);
        due.is("2: setParent(0, 1)", x.setParent(0, 1), -7);
        due.is("2: setParent(1, 2)", x.setParent(1, 2), -7);
        due.is("2: setParent(2, 0)", x.setParent(2, 0), -7);
        due.is("2: cycleLength(0)", x.cycleLength(0), 3);
        due.is("2: depth(0)", x.depth(0), -7);
        due.is("2: reduceToThree()", x.reduceToThree(), 6);
        due.is("2: colourCount()", x.colourCount(), 3);
        due.is("2: independentSetSize()", x.independentSetSize(), 1);
        due.is("2: greatestIndependentSet(0)", x.greatestIndependentSet(0), 1);
    }

    private static void improperColouring() {
        ColourReduction x = new ColourReduction();
        due.is("3: addNode(7)", x.addNode(7), 0);
        due.is("3: addNode(8)", x.addNode(8), 1);
        due.is("3: setParent(0, 1)", x.setParent(0, 1), -7);
        due.is("3: setColour(0, 8)", x.setColour(0, 8), 7);
        due.is("3: conflictCount()", x.conflictCount(), 1);
        due.is("3: reduce()", x.reduce(), -5);
        due.is("3: inIndependentSet(0)", x.inIndependentSet(0), -5);
        due.is("3: recolour(0)", x.recolour(0), 0);
        due.is("3: conflictCount() after recolour", x.conflictCount(), 0);
    }

    private static void errorsAndAShortPast() {
        ColourReduction x = new ColourReduction();
        due.is("4: addNode(70000)", x.addNode(70000), -2);
        due.is("4: addNode(5)", x.addNode(5), 0);
        due.is("4: addNode(5) again", x.addNode(5), -3);
        due.is("4: setParent(0, 0)", x.setParent(0, 0), -2);
        due.is("4: setParent(0, 3)", x.setParent(0, 3), -1);
        due.is("4: eliminate(2)", x.eliminate(2), -2);
        due.is("4: pastColour(0, 17)", x.pastColour(0, 17), -2);
        due.is("4: pastColour(0, 1)", x.pastColour(0, 1), -7);
    }
}
