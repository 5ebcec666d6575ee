/** The five examples of the document. */
final class ExamplesTest {
    private static final Due DUE = new Due("ExamplesTest");

    public static void main(String[] args) {
        threeColumnsOfOnes();
        elementThatIsNoCircuit();
        matrixWithTwoRowsFromText();
        rowWithTooFewDigits();
        columnOfZeros();
        DUE.end();
    }

    private static void threeColumnsOfOnes() {
        GraverCalculator x = new GraverCalculator();
        DUE.is("1: graverCount()", x.graverCount(), 3);
        DUE.is("1: graverEntry(0, 0)", x.graverEntry(0, 0), 1);
        DUE.is("1: graverEntry(0, 1)", x.graverEntry(0, 1), 0);
        DUE.is("1: graverEntry(1, 1)", x.graverEntry(1, 1), -1);
        DUE.is("1: setPoint(0, 2)", x.setPoint(0, 2), 0);
        DUE.is("1: fiberSize()", x.fiberSize(), 6);
        DUE.is("1: isMarkov()", x.isMarkov(), 1);
        DUE.is("1: activate(0, 0)", x.activate(0, 0), 2);
        DUE.is("1: isMarkov()", x.isMarkov(), 1);
        DUE.is("1: reduce()", x.reduce(), 2);
    }

    private static void elementThatIsNoCircuit() {
        GraverCalculator x = new GraverCalculator();
        DUE.is("2: setEntry(0, 1, 2)", x.setEntry(0, 1, 2), 1);
        DUE.is("2: graverCount()", x.graverCount(), 4);
        DUE.is("2: graverEntry(2, 1)", x.graverEntry(2, 1), -1);
        DUE.is("2: isCircuit(2)", x.isCircuit(2), 0);
        DUE.is("2: setVector(0, 2)", x.setVector(0, 2), 0);
        DUE.is("2: setVector(1, -1)", x.setVector(1, -1), 0);
        DUE.is("2: decompositionLength()", x.decompositionLength(), 1);
        DUE.is("2: decompositionStep(0)", x.decompositionStep(0), 2);
    }

    private static void matrixWithTwoRowsFromText() {
        GraverCalculator x = new GraverCalculator();
        DUE.is("3: append(49)", x.append(49), 1);
        DUE.is("3: append(32)", x.append(32), 2);
        DUE.is("3: append(50)", x.append(50), 3);
        DUE.is("3: append(59)", x.append(59), 4);
        DUE.is("3: append(48)", x.append(48), 5);
        DUE.is("3: append(49)", x.append(49), 6);
        DUE.is("3: loadText()", x.loadText(), 2);
        DUE.is("3: rank()", x.rank(), 2);
        DUE.is("3: graverCount()", x.graverCount(), 0);
    }

    private static void rowWithTooFewDigits() {
        GraverCalculator x = new GraverCalculator();
        DUE.is("4: append(49)", x.append(49), 1);
        DUE.is("4: append(59)", x.append(59), 2);
        DUE.is("4: append(49)", x.append(49), 3);
        DUE.is("4: append(49)", x.append(49), 4);
        DUE.is("4: loadText()", x.loadText(), -11);
        DUE.is("4: clearText()", x.clearText(), 4);
    }

    private static void columnOfZeros() {
        GraverCalculator x = new GraverCalculator();
        DUE.is("5: setEntry(0, 0, 0)", x.setEntry(0, 0, 0), 1);
        DUE.is("5: isPositive()", x.isPositive(), 0);
        DUE.is("5: fiberSize()", x.fiberSize(), -1002);
        DUE.is("5: graverEntry(0, 0)", x.graverEntry(0, 0), 1);
    }
}
