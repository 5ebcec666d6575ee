/**
 * The edges of promises 10 to 17, each with a test of its own: the Graver basis, the current
 * vector and its decomposition. The document's words stand above each group.
 */
final class BasisEdgesTest {
    private static final Due DUE = new Due("BasisEdgesTest");
    private static final int INVALID = Calls.INVALID;
    private static final int ILLEGAL = Calls.ILLEGAL;
    private static final int NONE = Calls.NONE;
    private static final int[] FAR = {Integer.MIN_VALUE, -(1 << 30), -32, -1, 32, 64, 256, 1 << 30, Integer.MAX_VALUE};

    public static void main(String[] args) {
        noElements();
        fewestElements();
        mostElements();
        matrixOfZeros();
        zeroColumn();
        zeroRow();
        firstEntryIsPositive();
        orderOfElements();
        greatestEntries();
        graverEntryElement();
        graverEntryIndex();
        elementsThatAreGone();
        circuits();
        isCircuitElement();
        indispensableIsExactlyTwo();
        isIndispensableElement();
        indispensableNotPositive();
        setVectorIndex();
        setVectorValue();
        isInKernel();
        decompositionOfZero();
        decompositionOutsideTheKernel();
        decompositionLongest();
        decompositionOrder();
        decompositionStepNumber();
        decompositionWithoutElements();
        DUE.end();
    }

    // Promise 10 and "The Graver basis consists of the vectors z of the kernel that are not 0"

    private static void noElements() {
        for (String text : new String[] {"10;01", "11;12", "33;32", "01;30"}) {
            DUE.begin("no elements, rank 2 of two columns: " + text);
            GraverCalculator x = Calls.load(text);
            DUE.is("graverCount()", x.graverCount(), 0);
            DUE.is("graverEntry(0, 0)", x.graverEntry(0, 0), INVALID);
            DUE.is("graverEntry(-1, 0)", x.graverEntry(-1, 0), INVALID);
            DUE.is("isCircuit(0)", x.isCircuit(0), INVALID);
            DUE.is("isIndispensable(0)", x.isIndispensable(0), INVALID);
            DUE.is("isActive(0)", x.isActive(0), INVALID);
            DUE.is("activate(0, 0)", x.activate(0, 0), INVALID);
            DUE.is("activate(0, 1)", x.activate(0, 1), INVALID);
        }
        DUE.begin("elements come and go with one entry");
        GraverCalculator x = Calls.load("11;12");
        DUE.is("setEntry(1, 1, 1)", x.setEntry(1, 1, 1), 2);
        DUE.is("basis", Calls.basis(x), "1 -1");
        DUE.is("setEntry(1, 1, 0)", x.setEntry(1, 1, 0), 1);
        DUE.is("graverCount()", x.graverCount(), 0);
        DUE.begin("a column becomes zero: what the greater entries left behind is not told");
        x = Calls.load("11");
        DUE.is("setEntry(0, 1, 0)", x.setEntry(0, 1, 0), 1);
        DUE.is("basis of 10", Calls.basis(x), "0 1");
        x = Calls.load("1100;0011");
        x.setEntry(0, 1, 0);
        x.setEntry(1, 2, 0);
        DUE.is("basis of 1000;0001", Calls.basis(x), "0 1 0 0, 0 0 1 0");
    }

    private static void fewestElements() {
        DUE.begin("one element, a kernel of one dimension");
        DUE.is("basis of 11", Calls.basis(Calls.load("11")), "1 -1");
        DUE.is("basis of 33", Calls.basis(Calls.load("33")), "1 -1");
        DUE.is("basis of 23", Calls.basis(Calls.load("23")), "3 -2");
        DUE.is("basis of 12;12", Calls.basis(Calls.load("12;12")), "2 -1");
        DUE.is("basis of 123;321", Calls.basis(Calls.load("123;321")), "1 -2 1");
    }

    private static void mostElements() {
        DUE.begin("14 elements, the most of any matrix");
        GraverCalculator x = Calls.load("2233");
        DUE.is("graverCount()", x.graverCount(), 14);
        DUE.is("active", Calls.active(x), "1".repeat(14));
        DUE.is("graverEntry(13, 1)", x.graverEntry(13, 1), 3);
        DUE.is("graverEntry(13, 2)", x.graverEntry(13, 2), -2);
        DUE.is("graverEntry(13, 3)", x.graverEntry(13, 3), 0);
        DUE.is("isCircuit(13)", x.isCircuit(13), 1);
        DUE.is("graverEntry(14, 0)", x.graverEntry(14, 0), INVALID);
    }

    // "The rank ... is the greatest number of linearly independent rows": with rank 0 all is kernel

    private static void matrixOfZeros() {
        DUE.begin("a matrix of zeros: each unit vector is an element, and there are no others");
        DUE.is("basis of 00", Calls.basis(Calls.load("00")), "1 0, 0 1");
        DUE.is("basis of 000", Calls.basis(Calls.load("000")), "1 0 0, 0 1 0, 0 0 1");
        DUE.is("basis of 0000", Calls.basis(Calls.load("0000")), "1 0 0 0, 0 1 0 0, 0 0 1 0, 0 0 0 1");
        DUE.is("basis of 00;00", Calls.basis(Calls.load("00;00")), "1 0, 0 1");
        DUE.is("basis of 0000;0000", Calls.basis(Calls.load("0000;0000")), "1 0 0 0, 0 1 0 0, 0 0 1 0, 0 0 0 1");
        DUE.is("circuits of 0000", Calls.circuits(Calls.load("0000")), "1111");
    }

    private static void zeroColumn() {
        DUE.begin("a column of zeros: its unit vector is an element");
        DUE.is("basis of 01", Calls.basis(Calls.load("01")), "1 0");
        DUE.is("basis of 10", Calls.basis(Calls.load("10")), "0 1");
        DUE.is("basis of 0111", Calls.basis(Calls.load("0111")), "1 0 0 0, 0 1 0 -1, 0 1 -1 0, 0 0 1 -1");
        DUE.is("basis of 10;10", Calls.basis(Calls.load("10;10")), "0 1");
        DUE.is("basis of 100;001", Calls.basis(Calls.load("100;001")), "0 1 0");
    }

    private static void zeroRow() {
        DUE.begin("a row of zeros, the first or the second: as if it were not there");
        for (String row : new String[] {"12", "121", "123", "2233"}) {
            String zeros = "0".repeat(row.length());
            String due = Calls.basis(Calls.load(row));
            DUE.is("basis of " + zeros + ";" + row, Calls.basis(Calls.load(zeros + ";" + row)), due);
            DUE.is("basis of " + row + ";" + zeros, Calls.basis(Calls.load(row + ";" + zeros)), due);
        }
    }

    // "whose first entry other than 0 is positive"

    private static void firstEntryIsPositive() {
        DUE.begin("the first entry other than 0 is positive, behind no zero or behind some");
        DUE.is("basis of 1111", Calls.basis(Calls.load("1111")),
            "1 0 0 -1, 1 0 -1 0, 1 -1 0 0, 0 1 0 -1, 0 1 -1 0, 0 0 1 -1");
        DUE.is("basis of 1100;0011", Calls.basis(Calls.load("1100;0011")), "1 -1 0 0, 0 0 1 -1");
        DUE.is("basis of 1000;0100", Calls.basis(Calls.load("1000;0100")), "0 0 1 0, 0 0 0 1");
    }

    // "ascending order of the sum of the absolute values ...; those with equal sums are in
    // descending lexicographic order (so 1 0 -1 comes before 0 1 -1)"

    private static void orderOfElements() {
        DUE.begin("equal sums: descending lexicographic order");
        DUE.is("basis of 111", Calls.basis(new GraverCalculator()), "1 0 -1, 1 -1 0, 0 1 -1");
        DUE.begin("different sums: a smaller sum comes first, though it is lexicographically smaller");
        DUE.is("basis of 121", Calls.basis(Calls.load("121")), "1 0 -1, 2 -1 0, 1 -1 1, 0 1 -2");
        DUE.is("basis of 123", Calls.basis(Calls.load("123")), "2 -1 0, 1 1 -1, 3 0 -1, 1 -2 1, 0 3 -2");
        DUE.is("basis of 3211", Calls.basis(Calls.load("3211")).substring(0, 8), "0 0 1 -1");
    }

    private static void greatestEntries() {
        DUE.begin("entries to 9 and -9, the greatest of any matrix");
        DUE.is("basis of 133;320", Calls.basis(Calls.load("133;320")), "6 -9 7");
        DUE.is("basis of 313;230", Calls.basis(Calls.load("313;230")), "9 -6 -7");
        DUE.is("basis of 331;023", Calls.basis(Calls.load("331;023")), "7 -9 6");
        DUE.begin("entries to 3 and -3, the greatest of rank 1");
        DUE.is("basis of 13", Calls.basis(Calls.load("13")), "3 -1");
        DUE.is("basis of 31", Calls.basis(Calls.load("31")), "1 -3");
        DUE.is("basis of 13;13", Calls.basis(Calls.load("13;13")), "3 -1");
    }

    // Promise 11: "INVALID_ARGUMENT if there is no such element, or if index is out of range"

    private static void graverEntryElement() {
        DUE.begin("graverEntry: the last element and the one behind it");
        GraverCalculator x = new GraverCalculator();
        DUE.is("graverEntry(2, 2)", x.graverEntry(2, 2), -1);
        DUE.is("graverEntry(3, 0)", x.graverEntry(3, 0), INVALID);
        for (int far : FAR) {
            DUE.begin("graverEntry: no element " + far);
            DUE.is("graverEntry(" + far + ", 0)", x.graverEntry(far, 0), INVALID);
            DUE.is("graverEntry(" + far + ", 3)", x.graverEntry(far, 3), INVALID);
        }
    }

    private static void graverEntryIndex() {
        String[] matrices = {"11", "111", "1111"};
        for (String text : matrices) {
            int n = text.length();
            DUE.begin("graverEntry: the last index of " + n + " and the one behind it");
            GraverCalculator x = Calls.load(text);
            DUE.is("graverEntry(0, n - 1)", x.graverEntry(0, n - 1), -1);
            DUE.is("graverEntry(0, n)", x.graverEntry(0, n), INVALID);
            DUE.is("graverEntry(0, -1)", x.graverEntry(0, -1), INVALID);
        }
        for (int far : FAR) {
            DUE.begin("graverEntry: index " + far + " out of range");
            DUE.is("graverEntry(0, " + far + ")", new GraverCalculator().graverEntry(0, far), INVALID);
        }
    }

    private static void elementsThatAreGone() {
        DUE.begin("elements of a greater basis are gone behind a smaller one");
        GraverCalculator x = Calls.load("2233");
        x.configure(1, 2);
        DUE.is("graverCount()", x.graverCount(), 1);
        for (int element = 1; element <= 14; element++) {
            DUE.is("graverEntry(" + element + ", 0)", x.graverEntry(element, 0), INVALID);
            DUE.is("isCircuit(" + element + ")", x.isCircuit(element), INVALID);
            DUE.is("isIndispensable(" + element + ")", x.isIndispensable(element), INVALID);
            DUE.is("isActive(" + element + ")", x.isActive(element), INVALID);
        }
        DUE.is("activate(0, 0) counts none of them", x.activate(0, 0), 0);
    }

    // Promise 12: "whose support does not properly contain the support of another element"

    private static void circuits() {
        DUE.begin("isCircuit: another element's support within its own");
        DUE.is("circuits of 121", Calls.circuits(Calls.load("121")), "1101");
        DUE.is("circuits of 123", Calls.circuits(Calls.load("123")), "10101");
        DUE.is("circuits of 1111;0123", Calls.circuits(Calls.load("1111;0123")), "01111");
        DUE.begin("isCircuit: of rank 1 without zeros, just the elements of two columns");
        for (String text : new String[] {"1111", "2233", "3211", "1123", "1213"}) {
            GraverCalculator x = Calls.load(text);
            String due = "";
            for (String element : Calls.basis(x).split(", ")) {
                due += element.replaceAll("[^1-9]", "").length() == 2 ? "1" : "0";
            }
            DUE.is("circuits of " + text, Calls.circuits(x), due);
        }
        DUE.begin("isCircuit: a single element");
        DUE.is("circuits of 23", Calls.circuits(Calls.load("23")), "1");
        DUE.is("circuits of 123;321", Calls.circuits(Calls.load("123;321")), "1");
        DUE.begin("isCircuit: an element's own support is not properly contained");
        DUE.is("basis of 112", Calls.basis(Calls.load("112")), "1 -1 0, 2 0 -1, 1 1 -1, 0 2 -1");
        DUE.is("circuits of 112", Calls.circuits(Calls.load("112")), "1101");
        DUE.is("circuits of 111", Calls.circuits(new GraverCalculator()), "111");
    }

    private static void isCircuitElement() {
        DUE.begin("isCircuit: the last element and the one behind it");
        GraverCalculator x = new GraverCalculator();
        DUE.is("isCircuit(2)", x.isCircuit(2), 1);
        DUE.is("isCircuit(3)", x.isCircuit(3), INVALID);
        for (int far : FAR) {
            DUE.begin("isCircuit: no element " + far);
            DUE.is("isCircuit(" + far + ")", x.isCircuit(far), INVALID);
        }
    }

    // Promise 13: "indispensable if the fiber of its positive part has exactly two vectors";
    // "INVALID_ARGUMENT if there is no such element; ILLEGAL_STATE if the matrix is not positive"

    private static void indispensableIsExactlyTwo() {
        DUE.begin("isIndispensable: exactly two vectors");
        DUE.is("isIndispensable(0) of 11", Calls.load("11").isIndispensable(0), 1);
        DUE.is("isIndispensable(0) of 12", Calls.load("12").isIndispensable(0), 1);
        DUE.is("isIndispensable(0) of 123;321", Calls.load("123;321").isIndispensable(0), 1);
        DUE.begin("isIndispensable: three vectors");
        GraverCalculator x = Calls.point(new GraverCalculator(), 1, 0, 0);
        DUE.is("fiber of 1 0 0", Calls.fiber(x), "0 0 1, 0 1 0, 1 0 0");
        for (int element = 0; element < 3; element++) {
            DUE.is("isIndispensable(" + element + ") of 111", x.isIndispensable(element), 0);
        }
        DUE.begin("isIndispensable: does not ask which elements are active");
        x = Calls.allOff(Calls.load("11"));
        DUE.is("isIndispensable(0) of 11", x.isIndispensable(0), 1);
    }

    private static void isIndispensableElement() {
        DUE.begin("isIndispensable: the last element and the one behind it");
        GraverCalculator x = Calls.load("1111;0123");
        DUE.is("isIndispensable(4)", x.isIndispensable(4), 0);
        DUE.is("isIndispensable(5)", x.isIndispensable(5), INVALID);
        for (int far : FAR) {
            DUE.begin("isIndispensable: no element " + far);
            DUE.is("isIndispensable(" + far + ")", x.isIndispensable(far), INVALID);
        }
    }

    private static void indispensableNotPositive() {
        DUE.begin("isIndispensable: not positive");
        GraverCalculator x = Calls.load("110");
        DUE.is("isIndispensable(0)", x.isIndispensable(0), ILLEGAL);
        DUE.is("isIndispensable(1)", x.isIndispensable(1), ILLEGAL);
        DUE.begin("isIndispensable: no such element stands before not positive");
        DUE.is("isIndispensable(2)", x.isIndispensable(2), INVALID);
        DUE.is("isIndispensable(-1)", x.isIndispensable(-1), INVALID);
        DUE.begin("isIndispensable: positive again");
        x.setEntry(0, 2, 2);
        DUE.is("isIndispensable(0) of 112", x.isIndispensable(0), 1);
    }

    // Promise 14: "index: 0 to n - 1; value: -30 to 30"

    private static void setVectorIndex() {
        for (int columns = 2; columns <= 4; columns++) {
            DUE.begin("setVector: the last index of " + columns + " and the one behind it");
            GraverCalculator x = new GraverCalculator();
            x.configure(1, columns);
            DUE.is("setVector(n - 1, 7)", x.setVector(columns - 1, 7), 0);
            DUE.is("setVector(n, 7)", x.setVector(columns, 7), INVALID);
            DUE.is("setVector(n - 1, 8)", x.setVector(columns - 1, 8), 7);
        }
        for (int far : FAR) {
            DUE.begin("setVector: index " + far + " out of range");
            GraverCalculator x = new GraverCalculator();
            DUE.is("setVector(" + far + ", 1)", x.setVector(far, 1), INVALID);
            DUE.is("vector", Calls.takeVector(x), "0 0 0");
        }
        DUE.begin("setVector: an index that is gone");
        GraverCalculator x = Calls.vector(Calls.load("1111"), 1, 2, 3, 4);
        x.configure(1, 3);
        DUE.is("setVector(3, 5)", x.setVector(3, 5), INVALID);
    }

    private static void setVectorValue() {
        DUE.begin("setVector: 30 and -30");
        GraverCalculator x = new GraverCalculator();
        DUE.is("setVector(0, 30)", x.setVector(0, 30), 0);
        DUE.is("setVector(1, -30)", x.setVector(1, -30), 0);
        DUE.is("isInKernel()", x.isInKernel(), 1);
        DUE.is("setVector(0, -30)", x.setVector(0, -30), 30);
        DUE.is("setVector(1, 30)", x.setVector(1, 30), -30);
        for (int value : new int[] {31, -31, Integer.MIN_VALUE, Integer.MAX_VALUE, 256, 1 << 30}) {
            DUE.begin("setVector: value " + value + " out of range");
            DUE.is("setVector(0, " + value + ")", x.setVector(0, value), INVALID);
            DUE.is("setVector(0, -30)", x.setVector(0, -30), -30);
        }
        DUE.begin("setVector: index and value out of range");
        DUE.is("setVector(3, 31)", x.setVector(3, 31), INVALID);
        DUE.begin("setVector: the same value is no error, and is saved");
        x = new GraverCalculator();
        DUE.is("setVector(0, 0)", x.setVector(0, 0), 0);
        DUE.is("undo()", x.undo(), 0);
    }

    // Promise 15: "The kernel consists of the vectors z for which A * z is 0."

    private static void isInKernel() {
        DUE.begin("isInKernel: the vector 0, of any matrix");
        for (String text : new String[] {"11", "0000", "10;01", "3333;3332"}) {
            DUE.is("isInKernel() of " + text, Calls.load(text).isInKernel(), 1);
        }
        DUE.begin("isInKernel: the greatest entries");
        GraverCalculator x = Calls.vector(Calls.load("3333;3333"), 30, 30, -30, -30);
        DUE.is("30 30 -30 -30", x.isInKernel(), 1);
        x.setVector(3, 30);
        DUE.is("30 30 -30 30", x.isInKernel(), 0);
        x.setVector(2, 30);
        DUE.is("30 30 30 30", x.isInKernel(), 0);
        DUE.begin("isInKernel: one beside it");
        x = Calls.vector(Calls.load("23"), 30, -20);
        DUE.is("30 -20 of 23", x.isInKernel(), 1);
        x.setVector(1, -21);
        DUE.is("30 -21 of 23", x.isInKernel(), 0);
        x.setVector(1, -19);
        DUE.is("30 -19 of 23", x.isInKernel(), 0);
        DUE.begin("isInKernel: 0 in one row only");
        x = Calls.vector(Calls.load("11;12"), 1, -1);
        DUE.is("1 -1 of 11;12", x.isInKernel(), 0);
        x = Calls.vector(Calls.load("12;11"), 1, -1);
        DUE.is("1 -1 of 12;11", x.isInKernel(), 0);
        DUE.begin("isInKernel: any vector of a matrix of zeros");
        DUE.is("30 -30 1 29 of 0000", Calls.vector(Calls.load("0000"), 30, -30, 1, 29).isInKernel(), 1);
        DUE.begin("isInKernel: the second row goes, and with it what kept the vector out");
        x = Calls.vector(Calls.load("11;12"), 1, -1);
        x.configure(1, 2);
        DUE.is("1 -1 of 11", x.isInKernel(), 1);
    }

    // Promises 16 and 17: "as long as the rest (at first w) is not 0"; "ILLEGAL_STATE if the vector
    // is not in the kernel"; "NONE if the sequence has no such element"

    private static void decompositionOfZero() {
        for (String text : new String[] {"111", "0000", "10;01", "110"}) {
            DUE.begin("the decomposition of 0 is empty: " + text);
            GraverCalculator x = Calls.load(text);
            DUE.is("decompositionLength()", x.decompositionLength(), 0);
            DUE.is("decompositionStep(0)", x.decompositionStep(0), NONE);
            DUE.is("decompositionStep(-1)", x.decompositionStep(-1), INVALID);
        }
        DUE.begin("the decomposition is empty again when the vector is 0 again");
        GraverCalculator x = Calls.vector(new GraverCalculator(), 2, -2, 0);
        DUE.is("decompositionLength()", x.decompositionLength(), 2);
        Calls.vector(x, 0, 0, 0);
        DUE.is("decompositionLength()", x.decompositionLength(), 0);
        DUE.is("decompositionStep(0)", x.decompositionStep(0), NONE);
    }

    private static void decompositionOutsideTheKernel() {
        DUE.begin("decompositionLength: outside the kernel");
        GraverCalculator x = Calls.vector(new GraverCalculator(), 1, 0, 0);
        DUE.is("decompositionLength()", x.decompositionLength(), ILLEGAL);
        DUE.begin("decompositionStep: outside the kernel");
        DUE.is("decompositionStep(0)", x.decompositionStep(0), ILLEGAL);
        DUE.begin("decompositionStep: negative stands before outside the kernel");
        DUE.is("decompositionStep(-1)", x.decompositionStep(-1), INVALID);
        DUE.is("decompositionStep(least)", x.decompositionStep(Integer.MIN_VALUE), INVALID);
        DUE.begin("decompositionStep: outside the kernel stands before no such element");
        DUE.is("decompositionStep(1000)", x.decompositionStep(1000), ILLEGAL);
        DUE.is("decompositionStep(greatest)", x.decompositionStep(Integer.MAX_VALUE), ILLEGAL);
        DUE.begin("decompositionLength: outside the kernel by the second row alone");
        x = Calls.vector(Calls.load("11;12"), 1, -1);
        DUE.is("decompositionLength()", x.decompositionLength(), ILLEGAL);
        DUE.is("decompositionStep(0)", x.decompositionStep(0), ILLEGAL);
        DUE.begin("the vector falls out of the kernel with the matrix, and comes back");
        x = Calls.vector(new GraverCalculator(), 1, -1, 0);
        DUE.is("decomposition by 111", Calls.decomposition(x), "2");
        x.setEntry(0, 1, 2);
        DUE.is("decompositionLength() by 121", x.decompositionLength(), ILLEGAL);
        x.undo();
        DUE.is("decomposition by 111", Calls.decomposition(x), "2");
    }

    private static void decompositionLongest() {
        DUE.begin("the longest sequence: 120 elements");
        GraverCalculator x = Calls.vector(Calls.load("0000"), 30, -30, -30, 30);
        DUE.is("decompositionLength()", x.decompositionLength(), 120);
        DUE.is("decompositionStep(0)", x.decompositionStep(0), 1);
        DUE.is("decompositionStep(29)", x.decompositionStep(29), 1);
        DUE.is("decompositionStep(30)", x.decompositionStep(30), -2);
        DUE.is("decompositionStep(119)", x.decompositionStep(119), 4);
        DUE.is("decompositionStep(120)", x.decompositionStep(120), NONE);
        DUE.begin("the longest sequence of a positive matrix: 60 elements");
        x = Calls.vector(Calls.load("1111"), 30, 30, -30, -30);
        DUE.is("decompositionLength()", x.decompositionLength(), 60);
        DUE.is("decompositionStep(29)", x.decompositionStep(29), 1);
        DUE.is("decompositionStep(30)", x.decompositionStep(30), 5);
        DUE.is("decompositionStep(59)", x.decompositionStep(59), 5);
        DUE.is("decompositionStep(60)", x.decompositionStep(60), NONE);
    }

    // "in the order 0 with plus, 0 with minus, 1 with plus, 1 with minus, and so on"

    private static void decompositionOrder() {
        DUE.begin("the first element with plus, and with minus");
        DUE.is("1 0 -1", Calls.decomposition(Calls.vector(new GraverCalculator(), 1, 0, -1)), "1");
        DUE.is("-1 0 1", Calls.decomposition(Calls.vector(new GraverCalculator(), -1, 0, 1)), "-1");
        DUE.begin("the last element with plus, and with minus");
        DUE.is("0 1 -1", Calls.decomposition(Calls.vector(new GraverCalculator(), 0, 1, -1)), "3");
        DUE.is("0 -1 1", Calls.decomposition(Calls.vector(new GraverCalculator(), 0, -1, 1)), "-3");
        DUE.begin("an earlier element with minus stands before a later one with plus");
        DUE.is("-1 1 -1 1", Calls.decomposition(Calls.vector(Calls.load("1111"), -1, 1, -1, 1)), "-1 5");
        DUE.begin("an absolute value may be equal, but not greater");
        DUE.is("2 -1 0", Calls.decomposition(Calls.vector(Calls.load("121"), 2, -1, 0)), "2");
        DUE.is("3 -1 -1", Calls.decomposition(Calls.vector(Calls.load("121"), 3, -1, -1)), "1 2");
        DUE.is("1 -1 1", Calls.decomposition(Calls.vector(Calls.load("121"), 1, -1, 1)), "3");
        DUE.begin("an element is taken as often as it is conformal");
        DUE.is("18 -27 21", Calls.decomposition(Calls.vector(Calls.load("133;320"), 18, -27, 21)), "1 1 1");
        DUE.is("-18 27 -21", Calls.decomposition(Calls.vector(Calls.load("133;320"), -18, 27, -21)), "-1 -1 -1");
        DUE.begin("inactive elements are taken too");
        DUE.is("1 0 -1", Calls.decomposition(Calls.allOff(Calls.vector(new GraverCalculator(), 1, 0, -1))), "1");
        DUE.begin("the matrix need not be positive");
        DUE.is("2 -2 -3", Calls.decomposition(Calls.vector(Calls.load("110"), 2, -2, -3)), "-1 -1 -1 2 2");
    }

    private static void decompositionStepNumber() {
        DUE.begin("decompositionStep: the last element and the one behind it");
        GraverCalculator x = Calls.vector(new GraverCalculator(), 3, -1, -2);
        DUE.is("decompositionLength()", x.decompositionLength(), 3);
        DUE.is("decompositionStep(2)", x.decompositionStep(2), 2);
        DUE.is("decompositionStep(3)", x.decompositionStep(3), NONE);
        for (int far : FAR) {
            DUE.begin("decompositionStep: step " + far);
            DUE.is("decompositionStep(" + far + ")", x.decompositionStep(far), far < 0 ? INVALID : NONE);
        }
        DUE.begin("decompositionStep: what a longer sequence left behind is not told");
        Calls.vector(x, 1, 0, -1);
        DUE.is("decompositionLength()", x.decompositionLength(), 1);
        DUE.is("decompositionStep(1)", x.decompositionStep(1), NONE);
        DUE.is("decompositionStep(2)", x.decompositionStep(2), NONE);
    }

    private static void decompositionWithoutElements() {
        DUE.begin("no elements: only 0 has a decomposition");
        GraverCalculator x = Calls.load("10;01");
        DUE.is("decompositionLength() of 0 0", x.decompositionLength(), 0);
        x.setVector(0, 1);
        DUE.is("isInKernel() of 1 0", x.isInKernel(), 0);
        DUE.is("decompositionLength() of 1 0", x.decompositionLength(), ILLEGAL);
        DUE.is("decompositionStep(0) of 1 0", x.decompositionStep(0), ILLEGAL);
    }
}
