/**
 * A method for each promise: ordinary calls, the edges that the document names, and wrong
 * arguments, also where two errors apply and the first one listed is due.
 */
final class PromisesTest {
    private static final Due DUE = new Due("PromisesTest");
    private static final int INVALID = GraverCalculator.INVALID_ARGUMENT;
    private static final int ILLEGAL = GraverCalculator.ILLEGAL_STATE;
    private static final int FULL = GraverCalculator.CAPACITY_EXCEEDED;
    private static final int NONE = GraverCalculator.NONE;
    private static final int[] FAR = {Integer.MIN_VALUE, Integer.MIN_VALUE + 1, -1, 1 << 30, Integer.MAX_VALUE};

    public static void main(String[] args) {
        newObject();
        configure();
        configureKeepsOrClears();
        setEntry();
        append();
        clearText();
        loadText();
        loadTextErrors();
        entry();
        rank();
        isPositive();
        graverCount();
        graverEntry();
        isCircuit();
        isIndispensable();
        setVector();
        isInKernel();
        decompositionLength();
        decompositionStep();
        setPoint();
        fiberSize();
        fiberEntry();
        activate();
        isActive();
        allActiveAgain();
        classes();
        distance();
        isMarkov();
        reduce();
        undo();
        undoOfEachCall();
        undoKeepsEight();
        failedCallsSaveNothing();
        farArguments();
        DUE.end();
    }

    // ---- helpers

    private static void write(GraverCalculator x, String text) {
        for (int i = 0; i < text.length(); i++) x.append(text.charAt(i));
    }

    private static GraverCalculator load(String text) {
        GraverCalculator x = new GraverCalculator();
        write(x, text);
        DUE.is("loadText() of " + text, x.loadText(), text.contains(";") ? 2 : 1);
        return x;
    }

    private static void setVector(GraverCalculator x, int... entries) {
        for (int i = 0; i < entries.length; i++) x.setVector(i, entries[i]);
    }

    private static void setPoint(GraverCalculator x, int... entries) {
        for (int i = 0; i < entries.length; i++) x.setPoint(i, entries[i]);
    }

    private static void isMatrix(String when, GraverCalculator x, String rows) {
        String[] parts = rows.split(";");
        for (int r = 0; r < 3; r++) {
            for (int c = 0; c < 5; c++) {
                boolean inside = r < parts.length && c < parts[r].length();
                DUE.is(when + ": entry(" + r + ", " + c + ")", x.entry(r, c), inside ? parts[r].charAt(c) - '0' : INVALID);
            }
        }
    }

    private static void isElement(GraverCalculator x, int element, int... entries) {
        for (int i = 0; i < entries.length; i++) {
            DUE.is("graverEntry(" + element + ", " + i + ")", x.graverEntry(element, i), entries[i]);
        }
        DUE.is("graverEntry(" + element + ", n)", x.graverEntry(element, entries.length), INVALID);
    }

    private static void isFiberVector(GraverCalculator x, int number, int... entries) {
        for (int i = 0; i < entries.length; i++) {
            DUE.is("fiberEntry(" + number + ", " + i + ")", x.fiberEntry(number, i), entries[i]);
        }
    }

    // ---- promises 1 to 9

    private static void newObject() {
        GraverCalculator x = new GraverCalculator();
        isMatrix("new", x, "111");
        DUE.is("new: undo()", x.undo(), ILLEGAL);
        DUE.is("new: clearText()", x.clearText(), 0);
        DUE.is("new: graverCount()", x.graverCount(), 3);
        DUE.is("new: isInKernel()", x.isInKernel(), 1);
        DUE.is("new: decompositionLength()", x.decompositionLength(), 0);
        DUE.is("new: fiberSize()", x.fiberSize(), 1);
        for (int i = 0; i < 3; i++) {
            DUE.is("new: isActive(" + i + ")", x.isActive(i), 1);
            DUE.is("new: setVector(" + i + ", 0)", x.setVector(i, 0), 0);
            DUE.is("new: setPoint(" + i + ", 0)", x.setPoint(i, 0), 0);
        }
    }

    private static void configure() {
        GraverCalculator x = new GraverCalculator();
        int previous = 3;
        for (int rows = 1; rows <= 2; rows++) {
            for (int columns = 2; columns <= 4; columns++) {
                DUE.is("configure(" + rows + ", " + columns + ")", x.configure(rows, columns), previous);
                isMatrix("configured", x, rows == 1 ? "1111".substring(0, columns) : "1111".substring(0, columns) + ";" + "1111".substring(0, columns));
                previous = columns;
            }
        }
        DUE.is("configure(0, 3)", x.configure(0, 3), INVALID);
        DUE.is("configure(3, 3)", x.configure(3, 3), INVALID);
        DUE.is("configure(1, 1)", x.configure(1, 1), INVALID);
        DUE.is("configure(1, 5)", x.configure(1, 5), INVALID);
        isMatrix("after wrong configure()", x, "1111;1111");
        x.setEntry(1, 2, 3);
        DUE.is("configure(2, 4) again", x.configure(2, 4), 4);
        isMatrix("configured again", x, "1111;1111");
    }

    private static void configureKeepsOrClears() {
        GraverCalculator x = new GraverCalculator();
        setVector(x, 4, -5, 6);
        setPoint(x, 1, 2, 3);
        x.configure(2, 3);
        DUE.is("vector kept: setVector(1, 0)", x.setVector(1, 0), -5);
        DUE.is("point kept: setPoint(2, 0)", x.setPoint(2, 0), 3);
        x.configure(2, 4);
        for (int i = 0; i < 4; i++) {
            DUE.is("vector cleared: setVector(" + i + ", 0)", x.setVector(i, 0), 0);
            DUE.is("point cleared: setPoint(" + i + ", 0)", x.setPoint(i, 0), 0);
        }
        setVector(x, 1, 2, 3, 4);
        x.configure(2, 2);
        x.configure(2, 4);
        DUE.is("fourth entry cleared: setVector(3, 0)", x.setVector(3, 0), 0);
    }

    private static void setEntry() {
        GraverCalculator x = new GraverCalculator();
        DUE.is("setEntry(0, 2, 3)", x.setEntry(0, 2, 3), 1);
        DUE.is("setEntry(0, 2, 0)", x.setEntry(0, 2, 0), 3);
        DUE.is("setEntry(0, 2, 0) again", x.setEntry(0, 2, 0), ILLEGAL);
        isMatrix("after setEntry()", x, "110");
        DUE.is("setEntry(1, 0, 2)", x.setEntry(1, 0, 2), INVALID);
        DUE.is("setEntry(-1, 0, 2)", x.setEntry(-1, 0, 2), INVALID);
        DUE.is("setEntry(0, 3, 2)", x.setEntry(0, 3, 2), INVALID);
        DUE.is("setEntry(0, -1, 2)", x.setEntry(0, -1, 2), INVALID);
        DUE.is("setEntry(0, 0, 4)", x.setEntry(0, 0, 4), INVALID);
        DUE.is("setEntry(0, 0, -1)", x.setEntry(0, 0, -1), INVALID);
        x.configure(2, 4);
        DUE.is("setEntry(1, 3, 2)", x.setEntry(1, 3, 2), 1);
        isMatrix("last entry", x, "1111;1112");
        DUE.is("setEntry(2, 3, 2)", x.setEntry(2, 3, 2), INVALID);
        DUE.is("vector kept by setEntry()", x.setVector(0, 7), 0);
        x.setEntry(0, 0, 2);
        DUE.is("vector kept by setEntry()", x.setVector(0, 7), 7);
    }

    private static void append() {
        GraverCalculator x = new GraverCalculator();
        DUE.is("append(-1)", x.append(-1), INVALID);
        DUE.is("append(256)", x.append(256), INVALID);
        DUE.is("append(0)", x.append(0), 1);
        DUE.is("append(255)", x.append(255), 2);
        for (int length = 3; length <= 40; length++) DUE.is("append(32)", x.append(32), length);
        DUE.is("append(32) to a full text", x.append(32), FULL);
        DUE.is("append(256) to a full text", x.append(256), INVALID);
        DUE.is("clearText()", x.clearText(), 40);
        DUE.is("append(32)", x.append(32), 1);
    }

    private static void clearText() {
        GraverCalculator x = new GraverCalculator();
        write(x, "12;3");
        DUE.is("clearText()", x.clearText(), 4);
        DUE.is("clearText() again", x.clearText(), 0);
        DUE.is("loadText() of nothing", x.loadText(), -10);
        DUE.is("no state is saved by the text", x.undo(), ILLEGAL);
    }

    private static void loadText() {
        GraverCalculator x = new GraverCalculator();
        setVector(x, 3, 2, 1);
        setPoint(x, 1, 2, 3);
        write(x, "  0 1 2;   3 2 1   ");
        DUE.is("loadText()", x.loadText(), 2);
        isMatrix("loaded", x, "012;321");
        DUE.is("the text is empty", x.clearText(), 0);
        DUE.is("vector kept", x.setVector(0, 3), 3);
        write(x, "3210");
        DUE.is("loadText()", x.loadText(), 1);
        isMatrix("loaded", x, "3210");
        DUE.is("vector cleared", x.setVector(0, 0), 0);
        DUE.is("point cleared", x.setPoint(2, 0), 0);
        write(x, "00");
        DUE.is("loadText()", x.loadText(), 1);
        isMatrix("loaded", x, "00");
        write(x, "                                 1111;22");
        DUE.is("loadText() of 40 characters, too few digits", x.loadText(), -50);
        x.clearText();
        write(x, "                              12 ; 30   ");
        DUE.is("loadText() of 40 characters", x.loadText(), 2);
        isMatrix("loaded", x, "12;30");
    }

    private static void loadTextErrors() {
        String[] texts = {"", "   ", "1", "1 ", ";", "1;", "11;", "11; ", "111;11", "11;1 ", "11111", "1111 1",
            "11;111", "1111;11111", "11;11;", "11;;", "11;1;", "4", "14", "11;4", "11;/1", "11;:1", "11\t", "11,11", "12;34", "1 2 3 ; 1 2 x"};
        int[] positions = {0, 3, 1, 2, 0, 1, 3, 4, 6, 5, 4, 5,
            5, 9, 5, 3, 4, 0, 1, 3, 3, 3, 2, 2, 4, 12};
        for (int i = 0; i < texts.length; i++) {
            GraverCalculator x = new GraverCalculator();
            write(x, texts[i]);
            DUE.is("loadText() of '" + texts[i] + "'", x.loadText(), -10 - positions[i]);
            DUE.is("loadText() again", x.loadText(), -10 - positions[i]);
            isMatrix("after a text with an error", x, "111");
            DUE.is("no state is saved", x.undo(), ILLEGAL);
            DUE.is("the text is kept", x.clearText(), texts[i].length());
        }
    }

    private static void entry() {
        GraverCalculator x = load("0123;3210");
        isMatrix("entry", x, "0123;3210");
        DUE.is("entry(-1, 0)", x.entry(-1, 0), INVALID);
        DUE.is("entry(0, -1)", x.entry(0, -1), INVALID);
        DUE.is("entry(2, 0)", x.entry(2, 0), INVALID);
        DUE.is("entry(1, 4)", x.entry(1, 4), INVALID);
    }

    private static void rank() {
        String[] texts = {"00", "0000;0000", "0001", "02;00", "00;03", "12;12", "12;21", "123;000", "0111;0222", "1122;1122", "1122;1123"};
        int[] ranks = {0, 0, 1, 1, 1, 1, 2, 1, 1, 1, 2};
        for (int i = 0; i < texts.length; i++) DUE.is("rank() of " + texts[i], load(texts[i]).rank(), ranks[i]);
        DUE.is("rank() of multiples", load("11;33").rank(), 1);
        DUE.is("rank() of 13;31", load("13;31").rank(), 2);
    }

    private static void isPositive() {
        String[] positive = {"11", "10;01", "0111;1000", "3333", "1010;0101"};
        String[] not = {"01", "10", "1110", "10;10", "00;00", "1101;1101"};
        for (String text : positive) DUE.is("isPositive() of " + text, load(text).isPositive(), 1);
        for (String text : not) DUE.is("isPositive() of " + text, load(text).isPositive(), 0);
    }

    // ---- promises 10 to 13

    private static void graverCount() {
        DUE.is("graverCount() of 11", load("11").graverCount(), 1);
        DUE.is("graverCount() of 111", load("111").graverCount(), 3);
        DUE.is("graverCount() of 121", load("121").graverCount(), 4);
        DUE.is("graverCount() of 123", load("123").graverCount(), 5);
        DUE.is("graverCount() of 1111", load("1111").graverCount(), 6);
        DUE.is("graverCount() of 2233", load("2233").graverCount(), 14);
        DUE.is("graverCount() of 1111;0123", load("1111;0123").graverCount(), 5);
        DUE.is("graverCount() of 0000", load("0000").graverCount(), 4);
        DUE.is("graverCount() of 10;01", load("10;01").graverCount(), 0);
        DUE.is("graverCount() of 100;010", load("100;010").graverCount(), 1);
    }

    private static void graverEntry() {
        GraverCalculator x = load("121");
        isElement(x, 0, 1, 0, -1);
        isElement(x, 1, 2, -1, 0);
        isElement(x, 2, 1, -1, 1);
        isElement(x, 3, 0, 1, -2);
        DUE.is("graverEntry(4, 0)", x.graverEntry(4, 0), INVALID);
        DUE.is("graverEntry(-1, 0)", x.graverEntry(-1, 0), INVALID);
        DUE.is("graverEntry(0, -1)", x.graverEntry(0, -1), INVALID);
        x = load("1111;0123");
        isElement(x, 0, 1, -1, -1, 1);
        isElement(x, 1, 1, -2, 1, 0);
        isElement(x, 2, 0, 1, -2, 1);
        isElement(x, 3, 2, -3, 0, 1);
        isElement(x, 4, 1, 0, -3, 2);
        x = load("0000");
        isElement(x, 0, 1, 0, 0, 0);
        isElement(x, 3, 0, 0, 0, 1);
        x = load("23");
        isElement(x, 0, 3, -2);
        x = load("033;310");
        isElement(x, 0, 1, -3, 3);
        DUE.is("graverCount() of 033;310", x.graverCount(), 1);
        // The greatest entries and the greatest sum of any matrix.
        isElement(load("133;320"), 0, 6, -9, 7);
        isElement(load("331;023"), 0, 7, -9, 6);
    }

    private static void isCircuit() {
        GraverCalculator x = load("121");
        int[] circuits = {1, 1, 0, 1};
        for (int i = 0; i < 4; i++) DUE.is("isCircuit(" + i + ") of 121", x.isCircuit(i), circuits[i]);
        DUE.is("isCircuit(4)", x.isCircuit(4), INVALID);
        DUE.is("isCircuit(-1)", x.isCircuit(-1), INVALID);
        x = load("012");
        DUE.is("isCircuit(0) of 012", x.isCircuit(0), 1);
        DUE.is("isCircuit(1) of 012", x.isCircuit(1), 1);
        DUE.is("isCircuit(0) without elements", load("10;01").isCircuit(0), INVALID);
    }

    private static void isIndispensable() {
        GraverCalculator x = load("1111;0123");
        int[] due = {1, 1, 1, 0, 0};
        for (int i = 0; i < 5; i++) DUE.is("isIndispensable(" + i + ")", x.isIndispensable(i), due[i]);
        DUE.is("isIndispensable(5)", x.isIndispensable(5), INVALID);
        DUE.is("isIndispensable(-1)", x.isIndispensable(-1), INVALID);
        DUE.is("isIndispensable(0) of 11", load("11").isIndispensable(0), 1);
        DUE.is("isIndispensable(0) of 111", load("111").isIndispensable(0), 0);
        x = load("110");
        DUE.is("isIndispensable(0) of 110", x.isIndispensable(0), ILLEGAL);
        DUE.is("isIndispensable(2) of 110", x.isIndispensable(2), INVALID);
        // The kept fiber of the point is not mixed up with the elements' fibers.
        x = load("11");
        setPoint(x, 5, 5);
        DUE.is("fiberSize()", x.fiberSize(), 11);
        DUE.is("isIndispensable(0)", x.isIndispensable(0), 1);
        DUE.is("fiberSize() after isIndispensable()", x.fiberSize(), 11);
    }

    // ---- promises 14 to 17

    private static void setVector() {
        GraverCalculator x = new GraverCalculator();
        DUE.is("setVector(0, 30)", x.setVector(0, 30), 0);
        DUE.is("setVector(0, -30)", x.setVector(0, -30), 30);
        DUE.is("setVector(2, 5)", x.setVector(2, 5), 0);
        DUE.is("setVector(0, -30) again", x.setVector(0, -30), -30);
        DUE.is("setVector(0, 31)", x.setVector(0, 31), INVALID);
        DUE.is("setVector(0, -31)", x.setVector(0, -31), INVALID);
        DUE.is("setVector(3, 0)", x.setVector(3, 0), INVALID);
        DUE.is("setVector(-1, 0)", x.setVector(-1, 0), INVALID);
        DUE.is("setVector(0, 0)", x.setVector(0, 0), -30);
        x.configure(1, 4);
        DUE.is("setVector(3, 1)", x.setVector(3, 1), 0);
        x.configure(1, 2);
        DUE.is("setVector(2, 1)", x.setVector(2, 1), INVALID);
    }

    private static void isInKernel() {
        GraverCalculator x = load("123;321");
        DUE.is("isInKernel() of 0", x.isInKernel(), 1);
        setVector(x, 1, -2, 1);
        DUE.is("isInKernel() of 1 -2 1", x.isInKernel(), 1);
        setVector(x, 1, 1, -1);
        DUE.is("isInKernel(), only of the first row", x.isInKernel(), 0);
        setVector(x, 1, -1, -1);
        DUE.is("isInKernel(), only of the second row", x.isInKernel(), 0);
        x = load("000");
        setVector(x, 30, -30, 1);
        DUE.is("isInKernel() of zeros", x.isInKernel(), 1);
    }

    private static void decompositionLength() {
        GraverCalculator x = load("0000");
        setVector(x, 30, -30, 30, -30);
        DUE.is("decompositionLength(), the greatest", x.decompositionLength(), 120);
        DUE.is("decompositionStep(0)", x.decompositionStep(0), 1);
        DUE.is("decompositionStep(30)", x.decompositionStep(30), -2);
        DUE.is("decompositionStep(119)", x.decompositionStep(119), -4);
        DUE.is("decompositionStep(120)", x.decompositionStep(120), NONE);
        x = new GraverCalculator();
        DUE.is("decompositionLength() of 0", x.decompositionLength(), 0);
        DUE.is("decompositionStep(0) of 0", x.decompositionStep(0), NONE);
        x.setVector(0, 1);
        DUE.is("decompositionLength() outside the kernel", x.decompositionLength(), ILLEGAL);
    }

    private static void decompositionStep() {
        GraverCalculator x = load("121");
        // 5 -4 3 = 2 * (2 -1 0) + (1 -1 1) - (0 1 -2)
        setVector(x, 5, -4, 3);
        DUE.is("decompositionLength() of 5 -4 3", x.decompositionLength(), 4);
        DUE.is("decompositionStep(0)", x.decompositionStep(0), 2);
        DUE.is("decompositionStep(1)", x.decompositionStep(1), 2);
        DUE.is("decompositionStep(2)", x.decompositionStep(2), 3);
        DUE.is("decompositionStep(3)", x.decompositionStep(3), -4);
        DUE.is("decompositionStep(4)", x.decompositionStep(4), NONE);
        DUE.is("decompositionStep(-1)", x.decompositionStep(-1), INVALID);
        setVector(x, -5, 4, -3);
        DUE.is("negative: decompositionStep(0)", x.decompositionStep(0), -2);
        DUE.is("negative: decompositionStep(3)", x.decompositionStep(3), 4);
        setVector(x, -30, 0, 30);
        DUE.is("decompositionLength() of -30 0 30", x.decompositionLength(), 30);
        DUE.is("decompositionStep(29)", x.decompositionStep(29), -1);
        x.setVector(0, 1);
        DUE.is("decompositionStep(-1) outside the kernel", x.decompositionStep(-1), INVALID);
        DUE.is("decompositionStep(0) outside the kernel", x.decompositionStep(0), ILLEGAL);
        DUE.is("decompositionStep(999) outside the kernel", x.decompositionStep(999), ILLEGAL);
        x.setVector(0, -30);
        x.activate(0, 0);
        DUE.is("inactive elements take part too", x.decompositionStep(29), -1);
    }

    // ---- promises 18 to 20

    private static void setPoint() {
        GraverCalculator x = new GraverCalculator();
        DUE.is("setPoint(2, 5)", x.setPoint(2, 5), 0);
        DUE.is("setPoint(2, 0)", x.setPoint(2, 0), 5);
        DUE.is("setPoint(2, 0) again", x.setPoint(2, 0), 0);
        DUE.is("setPoint(2, 6)", x.setPoint(2, 6), INVALID);
        DUE.is("setPoint(2, -1)", x.setPoint(2, -1), INVALID);
        DUE.is("setPoint(3, 0)", x.setPoint(3, 0), INVALID);
        DUE.is("setPoint(-1, 0)", x.setPoint(-1, 0), INVALID);
        x = load("110");
        DUE.is("setPoint(0, 1), matrix not positive", x.setPoint(0, 1), 0);
    }

    private static void fiberSize() {
        GraverCalculator x = load("1113");
        setPoint(x, 5, 5, 5, 5);
        DUE.is("fiberSize(), the greatest", x.fiberSize(), 1991);
        x.setPoint(3, 0);
        DUE.is("fiberSize() after setPoint()", x.fiberSize(), 136 + 91 + 55 + 28 + 10 + 1);
        x = load("11;12");
        setPoint(x, 4, 5);
        DUE.is("fiberSize() of rank n", x.fiberSize(), 1);
        x = load("1111;0123");
        setPoint(x, 2, 0, 0, 2);
        DUE.is("fiberSize() of 1111;0123", x.fiberSize(), 5);
        x.setEntry(0, 0, 0);
        DUE.is("fiberSize(), not positive", x.fiberSize(), ILLEGAL);
        x.setEntry(0, 0, 2);
        DUE.is("fiberSize() of 2111;0123", x.fiberSize(), 4);
    }

    private static void fiberEntry() {
        GraverCalculator x = load("1111;0123");
        setPoint(x, 2, 0, 0, 2);
        isFiberVector(x, 0, 0, 2, 2, 0);
        isFiberVector(x, 1, 0, 3, 0, 1);
        isFiberVector(x, 2, 1, 0, 3, 0);
        isFiberVector(x, 3, 1, 1, 1, 1);
        isFiberVector(x, 4, 2, 0, 0, 2);
        DUE.is("fiberEntry(5, 0)", x.fiberEntry(5, 0), NONE);
        DUE.is("fiberEntry(-1, 0)", x.fiberEntry(-1, 0), INVALID);
        DUE.is("fiberEntry(0, 4)", x.fiberEntry(0, 4), INVALID);
        DUE.is("fiberEntry(0, -1)", x.fiberEntry(0, -1), INVALID);
        DUE.is("fiberEntry(5, 4)", x.fiberEntry(5, 4), INVALID);
        x = load("01");
        DUE.is("fiberEntry(0, 0), not positive", x.fiberEntry(0, 0), ILLEGAL);
        DUE.is("fiberEntry(-1, 0), not positive", x.fiberEntry(-1, 0), INVALID);
        DUE.is("fiberEntry(0, 2), not positive", x.fiberEntry(0, 2), INVALID);
        DUE.is("fiberEntry(9, 0), not positive", x.fiberEntry(9, 0), ILLEGAL);
        x = load("1333");
        setPoint(x, 5, 5, 5, 5);
        DUE.is("fiberEntry(0, 0): 50 = 5 + 45", x.fiberEntry(0, 0), 2);
        int last = x.fiberSize() - 1;
        DUE.is("fiberEntry(last, 0)", x.fiberEntry(last, 0), 50);
        DUE.is("fiberEntry(last + 1, 0)", x.fiberEntry(last + 1, 0), NONE);
    }

    // ---- promises 21 to 26

    private static void activate() {
        GraverCalculator x = new GraverCalculator();
        DUE.is("activate(1, 1), active already", x.activate(1, 1), ILLEGAL);
        DUE.is("activate(1, 0)", x.activate(1, 0), 2);
        DUE.is("activate(1, 0), inactive already", x.activate(1, 0), ILLEGAL);
        DUE.is("activate(0, 0)", x.activate(0, 0), 1);
        DUE.is("activate(2, 0)", x.activate(2, 0), 0);
        DUE.is("activate(1, 1)", x.activate(1, 1), 1);
        DUE.is("activate(3, 1)", x.activate(3, 1), INVALID);
        DUE.is("activate(-1, 1)", x.activate(-1, 1), INVALID);
        DUE.is("activate(1, 2)", x.activate(1, 2), INVALID);
        DUE.is("activate(1, -1)", x.activate(1, -1), INVALID);
        DUE.is("activate(0, 0), without elements", load("10;01").activate(0, 0), INVALID);
        DUE.is("activate(0, 0), not positive", load("00").activate(0, 0), 1);
        x = load("2233");
        DUE.is("activate(13, 0), the greatest number", x.activate(13, 0), 13);
    }

    private static void isActive() {
        GraverCalculator x = new GraverCalculator();
        x.activate(1, 0);
        DUE.is("isActive(0)", x.isActive(0), 1);
        DUE.is("isActive(1)", x.isActive(1), 0);
        DUE.is("isActive(2)", x.isActive(2), 1);
        DUE.is("isActive(3)", x.isActive(3), INVALID);
        DUE.is("isActive(-1)", x.isActive(-1), INVALID);
        DUE.is("isActive(31)", x.isActive(31), INVALID);
        DUE.is("isActive(32)", x.isActive(32), INVALID);
    }

    private static void allActiveAgain() {
        GraverCalculator x = new GraverCalculator();
        x.activate(0, 0);
        x.configure(1, 3);
        DUE.is("isActive(0) after configure() of the same", x.isActive(0), 1);
        x.activate(0, 0);
        write(x, "111");
        x.loadText();
        DUE.is("isActive(0) after loadText() of the same", x.isActive(0), 1);
        x.activate(0, 0);
        x.setEntry(0, 0, 2);
        DUE.is("isActive(0) after setEntry()", x.isActive(0), 1);
        x.activate(0, 0);
        x.setEntry(0, 0, 2);
        x.configure(1, 1);
        x.loadText();
        x.setVector(0, 1);
        x.setPoint(0, 1);
        DUE.is("isActive(0) after failing calls", x.isActive(0), 0);
    }

    private static void classes() {
        GraverCalculator x = load("1111;0123");
        setPoint(x, 2, 0, 0, 2);
        DUE.is("classes(), all active", x.classes(), 1);
        x.activate(3, 0);
        x.activate(4, 0);
        x.activate(0, 0);
        DUE.is("classes() without 1 -1 -1 1", x.classes(), 2);
        x.activate(1, 0);
        x.activate(2, 0);
        DUE.is("classes(), none active", x.classes(), 5);
        x.activate(4, 1);
        DUE.is("classes() with 1 0 -3 2 alone", x.classes(), 4);
        x.setEntry(0, 0, 0);
        DUE.is("classes(), not positive", x.classes(), ILLEGAL);
        DUE.is("classes() of one vector", load("10;01").classes(), 1);
    }

    private static void distance() {
        GraverCalculator x = load("1111;0123");
        setPoint(x, 2, 0, 0, 2);
        int[] all = {2, 1, 1, 1, 0};
        for (int i = 0; i < 5; i++) DUE.is("distance(" + i + ")", x.distance(i), all[i]);
        DUE.is("distance(5)", x.distance(5), NONE);
        DUE.is("distance(-1)", x.distance(-1), INVALID);
        x.activate(3, 0);
        x.activate(4, 0);
        int[] three = {2, 2, 2, 1, 0};
        for (int i = 0; i < 5; i++) DUE.is("distance(" + i + ") by three", x.distance(i), three[i]);
        x.activate(0, 0);
        DUE.is("distance(4) to itself", x.distance(4), 0);
        DUE.is("distance(3), not connected", x.distance(3), NONE);
        x.setPoint(3, 1);
        x.undo();
        DUE.is("distance(3) after undo()", x.distance(3), NONE);
        x.setEntry(0, 0, 0);
        DUE.is("distance(0), not positive", x.distance(0), ILLEGAL);
        DUE.is("distance(-1), not positive", x.distance(-1), INVALID);
        DUE.is("distance(99), not positive", x.distance(99), ILLEGAL);
    }

    private static void isMarkov() {
        GraverCalculator x = new GraverCalculator();
        DUE.is("isMarkov(), all active", x.isMarkov(), 1);
        x.activate(1, 0);
        DUE.is("isMarkov(), two active", x.isMarkov(), 1);
        x.activate(0, 0);
        DUE.is("isMarkov(), one active", x.isMarkov(), 0);
        DUE.is("isMarkov(), no elements", load("10;01").isMarkov(), 1);
        DUE.is("isMarkov(), not positive", load("110").isMarkov(), ILLEGAL);
        x = load("1111;0123");
        x.activate(3, 0);
        x.activate(4, 0);
        DUE.is("isMarkov(), the indispensable ones", x.isMarkov(), 1);
        x.activate(4, 1);
        x.activate(2, 0);
        DUE.is("isMarkov(), without an indispensable one", x.isMarkov(), 0);
    }

    private static void reduce() {
        GraverCalculator x = load("1111;0123");
        DUE.is("reduce()", x.reduce(), 3);
        int[] due = {1, 1, 1, 0, 0};
        for (int i = 0; i < 5; i++) DUE.is("isActive(" + i + ") after reduce()", x.isActive(i), due[i]);
        DUE.is("reduce() again", x.reduce(), 3);
        x.activate(1, 0);
        DUE.is("reduce(), no Markov basis", x.reduce(), ILLEGAL);
        DUE.is("reduce(), no elements", load("10;01").reduce(), 0);
        DUE.is("reduce(), not positive", load("110").reduce(), ILLEGAL);
        x = new GraverCalculator();
        DUE.is("reduce() of 111", x.reduce(), 2);
        DUE.is("isActive(2): the last one goes first", x.isActive(2), 0);
        DUE.is("isActive(1)", x.isActive(1), 1);
        DUE.is("isActive(0)", x.isActive(0), 1);
    }

    // ---- promise 27

    private static void undo() {
        GraverCalculator x = new GraverCalculator();
        DUE.is("undo() of nothing", x.undo(), ILLEGAL);
        x.setPoint(0, 2);
        x.setPoint(1, 3);
        DUE.is("fiberSize()", x.fiberSize(), 21);
        DUE.is("undo()", x.undo(), 1);
        DUE.is("fiberSize() after undo()", x.fiberSize(), 6);
        DUE.is("undo()", x.undo(), 0);
        DUE.is("fiberSize() after undo()", x.fiberSize(), 1);
        DUE.is("undo() of nothing more", x.undo(), ILLEGAL);
        write(x, "12");
        x.loadText();
        DUE.is("undo() of loadText()", x.undo(), 0);
        DUE.is("the text does not come back", x.clearText(), 0);
        write(x, "12");
        x.setPoint(0, 1);
        x.undo();
        DUE.is("the text stays", x.clearText(), 2);
    }

    private static void undoOfEachCall() {
        GraverCalculator x = load("123;321");
        setVector(x, 1, -2, 1);
        setPoint(x, 1, 1, 1);
        x.activate(0, 0);
        x.configure(1, 4);
        DUE.is("undo() of configure()", x.undo(), 7);
        isUndone(x);
        x.setEntry(1, 1, 0);
        DUE.is("undo() of setEntry()", x.undo(), 7);
        isUndone(x);
        write(x, "1111;0123");
        x.loadText();
        DUE.is("undo() of loadText()", x.undo(), 7);
        isUndone(x);
        x.setVector(0, 5);
        DUE.is("undo() of setVector()", x.undo(), 7);
        isUndone(x);
        x.setPoint(0, 5);
        DUE.is("undo() of setPoint()", x.undo(), 7);
        isUndone(x);
        x.activate(0, 1);
        DUE.is("undo() of activate()", x.undo(), 7);
        isUndone(x);
        x = new GraverCalculator();
        x.reduce();
        DUE.is("undo() of reduce()", x.undo(), 0);
        for (int i = 0; i < 3; i++) DUE.is("isActive(" + i + ") after undo() of reduce()", x.isActive(i), 1);
    }

    /** All that the calls before undoOfEachCall()'s first undo() have made. */
    private static void isUndone(GraverCalculator x) {
        isMatrix("undone", x, "123;321");
        DUE.is("undone: graverCount()", x.graverCount(), 1);
        DUE.is("undone: isActive(0)", x.isActive(0), 0);
        DUE.is("undone: rank()", x.rank(), 2);
        DUE.is("undone: isInKernel()", x.isInKernel(), 1);
        DUE.is("undone: decompositionStep(0)", x.decompositionStep(0), 1);
        DUE.is("undone: fiberSize()", x.fiberSize(), 2);
        DUE.is("undone: classes()", x.classes(), 2);
    }

    private static void undoKeepsEight() {
        GraverCalculator x = new GraverCalculator();
        for (int value = 1; value <= 20; value++) x.setVector(0, value);
        for (int left = 7; left >= 0; left--) DUE.is("undo()", x.undo(), left);
        DUE.is("undo() of a ninth", x.undo(), ILLEGAL);
        DUE.is("the ninth is gone", x.setVector(0, 0), 12);
        DUE.is("undo()", x.undo(), 0);
        for (int value = 1; value <= 9; value++) x.setVector(1, value);
        DUE.is("undo()", x.undo(), 7);
        for (int value = 1; value <= 3; value++) x.setVector(2, value);
        for (int left = 7; left >= 0; left--) DUE.is("undo()", x.undo(), left);
        DUE.is("setVector(2, 0)", x.setVector(2, 0), 0);
        DUE.is("setVector(1, 0)", x.setVector(1, 0), 3);
    }

    private static void failedCallsSaveNothing() {
        GraverCalculator x = new GraverCalculator();
        x.configure(1, 5);
        x.setEntry(0, 0, 1);
        x.setEntry(0, 0, 4);
        x.append(300);
        x.append('x');
        x.loadText();
        x.setVector(0, 31);
        x.setPoint(0, 6);
        x.activate(0, 1);
        x.activate(3, 0);
        DUE.is("undo() after failing calls", x.undo(), ILLEGAL);
        x.setEntry(0, 0, 0);
        DUE.is("reduce(), not positive", x.reduce(), ILLEGAL);
        DUE.is("undo() after a failing reduce()", x.undo(), 0);
        x.graverCount();
        x.fiberSize();
        x.classes();
        x.distance(0);
        x.isMarkov();
        DUE.is("undo() after asking calls", x.undo(), ILLEGAL);
        x.setVector(0, 0);
        x.setPoint(0, 0);
        DUE.is("calls that set the same value save too", x.undo(), 1);
    }

    private static void farArguments() {
        GraverCalculator x = load("1111;0123");
        for (int far : FAR) {
            DUE.is("configure(far, 3)", x.configure(far, 3), INVALID);
            DUE.is("configure(1, far)", x.configure(1, far), INVALID);
            DUE.is("setEntry(far, 0, 0)", x.setEntry(far, 0, 0), INVALID);
            DUE.is("setEntry(0, far, 0)", x.setEntry(0, far, 0), INVALID);
            DUE.is("setEntry(0, 0, far)", x.setEntry(0, 0, far), INVALID);
            DUE.is("append(far)", x.append(far), INVALID);
            DUE.is("entry(far, 0)", x.entry(far, 0), INVALID);
            DUE.is("entry(0, far)", x.entry(0, far), INVALID);
            DUE.is("graverEntry(far, 0)", x.graverEntry(far, 0), INVALID);
            DUE.is("graverEntry(0, far)", x.graverEntry(0, far), INVALID);
            DUE.is("isCircuit(far)", x.isCircuit(far), INVALID);
            DUE.is("isIndispensable(far)", x.isIndispensable(far), INVALID);
            DUE.is("setVector(far, 0)", x.setVector(far, 0), INVALID);
            DUE.is("setPoint(far, 0)", x.setPoint(far, 0), INVALID);
            DUE.is("fiberEntry(0, far)", x.fiberEntry(0, far), INVALID);
            DUE.is("fiberEntry(far, 0)", x.fiberEntry(far, 0), far < 0 ? INVALID : NONE);
            DUE.is("distance(far)", x.distance(far), far < 0 ? INVALID : NONE);
            DUE.is("decompositionStep(far)", x.decompositionStep(far), far < 0 ? INVALID : NONE);
            DUE.is("activate(far, 0)", x.activate(far, 0), INVALID);
            DUE.is("activate(0, far)", x.activate(0, far), INVALID);
            DUE.is("isActive(far)", x.isActive(far), INVALID);
        }
        DUE.is("setVector(0, far)", x.setVector(0, Integer.MIN_VALUE), INVALID);
        DUE.is("setVector(0, far)", x.setVector(0, Integer.MAX_VALUE), INVALID);
        DUE.is("setPoint(0, far)", x.setPoint(0, Integer.MAX_VALUE), INVALID);
    }
}
