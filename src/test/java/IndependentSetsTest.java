/** Promises 24 to 26: the independent sets. */
public final class IndependentSetsTest {
    private static final Due due = new Due();

    public static void main(String[] args) {
        setFromTheColours();
        sameColourByAscendingNumber();
        setOfTwoParentsOfEachOther();
        setErrorsInTheirOrder();
        greatestSetOfTrees();
        greatestSetOfCycles();
        greatestSetBesideALoneNode();
        greatestSetOfCyclesWithTrees();
        greatestSetErrors();
        due.end();
    }

    private static void members(String when, ColourReduction x, int... want) {
        int size = 0;
        for (int i = 0; i < want.length; i++) {
            due.is(when + ": inIndependentSet(" + i + ")", x.inIndependentSet(i), want[i]);
            size += want[i];
        }
        due.is(when + ": independentSetSize()", x.independentSetSize(), size);
    }

    private static void setFromTheColours() {
        members("ascending path", Due.path(1, 2, 3, 4, 5), 1, 0, 1, 0, 1);
        members("path with the lowest inside", Due.path(5, 1, 4, 2, 3), 0, 1, 0, 1, 0);
        members("path with both ends high", Due.path(9, 1, 8, 7, 2), 0, 1, 0, 0, 1);
        members("lone nodes", Due.nodes(3, 2, 1), 1, 1, 1);
        members("cycle of five", Due.cycle(3, 1, 4, 5, 2), 0, 1, 0, 0, 1);
        ColourReduction x = Due.path(1, 2, 3);
        x.independentSetSize();
        x.shift();
        x.independentSetSize();
        due.is("sets keep the count", x.roundCount(), 1);
        due.colours("sets keep the colours", x, 0, 1, 2);
    }

    private static void sameColourByAscendingNumber() {
        // Neighbours of a proper colouring differ, so equal colours never compete.
        ColourReduction x = Due.path(10, 11, 12, 13);
        x.setColour(0, 2);
        x.setColour(1, 1);
        x.setColour(2, 2);
        x.setColour(3, 1);
        members("two colours", x, 0, 1, 0, 1);
    }

    private static void setOfTwoParentsOfEachOther() {
        ColourReduction x = Due.cycle(6, 5);
        members("two", x, 0, 1);
        due.is("two: greatestIndependentSet(0)", x.greatestIndependentSet(0), 1);
    }

    private static void setErrorsInTheirOrder() {
        ColourReduction x = Due.path(1, 2, 3);
        due.is("inIndependentSet(3)", x.inIndependentSet(3), -1);
        due.is("inIndependentSet(-1)", x.inIndependentSet(-1), -1);
        x.setColour(2, 2);
        due.is("improper: inIndependentSet(0)", x.inIndependentSet(0), -5);
        due.is("improper: inIndependentSet(3)", x.inIndependentSet(3), -1);
        due.is("improper: independentSetSize()", x.independentSetSize(), -5);
        due.is("improper: greatestIndependentSet(0)", x.greatestIndependentSet(0), 2);
    }

    private static void greatestSetOfTrees() {
        due.is("greatest of a lone node", Due.nodes(4).greatestIndependentSet(0), 1);
        due.is("greatest of a path of two", Due.path(1, 2).greatestIndependentSet(1), 1);
        due.is("greatest of a path of five", Due.path(1, 2, 3, 4, 5).greatestIndependentSet(2), 3);
        ColourReduction middleFirst = Due.nodes(1, 2, 3);
        middleFirst.setParent(1, 0);
        middleFirst.setParent(2, 0);
        due.is("greatest of a path whose middle is node 0", middleFirst.greatestIndependentSet(0), 2);
        ColourReduction star = Due.numbered(24);
        for (int i = 0; i < 23; i++) {
            star.setParent(i, 23);
        }
        due.is("greatest of a star", star.greatestIndependentSet(23), 23);
        star.removeParent(4);
        due.is("greatest of a smaller star", star.greatestIndependentSet(0), 22);
        due.is("greatest beside the star", star.greatestIndependentSet(4), 1);
        ColourReduction path = Due.numbered(24);
        for (int i = 1; i < 24; i++) {
            path.setParent(i, i - 1);
        }
        due.is("greatest of the longest path", path.greatestIndependentSet(0), 12);
    }

    private static void greatestSetOfCycles() {
        for (int length = 2; length <= 24; length++) {
            ColourReduction x = Due.numbered(length);
            for (int i = 0; i < length; i++) {
                x.setParent(i, (i + 1) % length);
            }
            due.is("greatest of a cycle of " + length, x.greatestIndependentSet(length - 1), length / 2);
        }
    }

    private static void greatestSetBesideALoneNode() {
        ColourReduction x = Due.numbered(6);
        for (int i = 1; i < 6; i++) {
            x.setParent(i, i % 5 + 1);
        }
        due.is("greatest of a cycle beside a lone node", x.greatestIndependentSet(3), 2);
        due.is("greatest of the lone node", x.greatestIndependentSet(0), 1);
    }

    private static void greatestSetOfCyclesWithTrees() {
        ColourReduction sun = Due.cycle(0, 1, 2, 3, 4);
        for (int i = 0; i < 5; i++) {
            sun.addNode(10 + i);
            sun.setParent(5 + i, i);
        }
        due.is("greatest of a sun", sun.greatestIndependentSet(0), 5);
        ColourReduction tail = Due.cycle(0, 1, 2);
        tail.addNode(3);
        tail.addNode(4);
        tail.setParent(3, 0);
        tail.setParent(4, 3);
        due.is("greatest of a triangle with a tail of two", tail.greatestIndependentSet(4), 2);
        tail.addNode(5);
        tail.setParent(5, 4);
        due.is("greatest of a triangle with a tail of three", tail.greatestIndependentSet(1), 3);
        ColourReduction two = Due.cycle(0, 1);
        two.addNode(2);
        two.addNode(3);
        two.setParent(2, 0);
        two.setParent(3, 0);
        due.is("greatest of two with children", two.greatestIndependentSet(0), 3);
    }

    private static void greatestSetErrors() {
        due.is("no nodes: greatestIndependentSet(0)", new ColourReduction().greatestIndependentSet(0), -1);
        ColourReduction x = Due.path(1, 2, 3);
        due.is("greatestIndependentSet(3)", x.greatestIndependentSet(3), -1);
        due.is("greatestIndependentSet(-1)", x.greatestIndependentSet(-1), -1);
        due.is("greatestIndependentSet(MAX)", x.greatestIndependentSet(Integer.MAX_VALUE), -1);
        due.is("greatestIndependentSet(MIN)", x.greatestIndependentSet(Integer.MIN_VALUE), -1);
        due.is("greatest: roundCount()", x.roundCount(), 0);
    }
}
