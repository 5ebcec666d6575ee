/**
 * Long runs of mixed calls, with arguments within and beyond their ranges, against the reference.
 * The numbers come from a fixed generator, so every run of the test is the same.
 */
final class RandomRunsTest {
    private static final Due DUE = new Due("RandomRunsTest");
    private static final int RUNS = 3000;
    // The document promises 512 calls of an object, and the longest thing to do takes some 60.
    private static final int CALLS = 512 - 60;
    private static final int[] ODD_NUMBERS = {
        Integer.MIN_VALUE, Integer.MIN_VALUE + 1, -1009, -31, -30, 30, 31, 63, 64, 128, 255, 256, 4096,
        1 << 30, Integer.MAX_VALUE - 1, Integer.MAX_VALUE};
    private static final String CHARACTERS = "0123012301230123 ;;4x-,/:";
    private static long seed;

    private GraverCalculator x = new GraverCalculator();
    private Reference due = new Reference();
    private int calls;
    private final int run;
    // Some runs stay with few columns, where large fibers do not slow the reference.
    private final int mostColumns;

    private RandomRunsTest(int run) {
        this.run = run;
        mostColumns = run % 8 == 0 ? 4 : 3;
    }

    public static void main(String[] args) {
        for (int run = 0; run < RUNS; run++) {
            seed = 1000003L * run + 17;
            RandomRunsTest test = new RandomRunsTest(run);
            while (test.calls < CALLS) {
                test.callSomething();
            }
        }
        DUE.end();
    }

    private static int below(int bound) {
        seed = seed * 6364136223846793005L + 1442695040888963407L;
        return (int) ((seed >>> 33) % bound);
    }

    /** Mostly a number of the range, sometimes one beside it, seldom an odd one. */
    private static int about(int low, int high) {
        int kind = below(60);
        if (kind == 0) return ODD_NUMBERS[below(ODD_NUMBERS.length)];
        if (kind < 3) return low - 1;
        if (kind < 5) return high + 1;
        return low + below(high - low + 1);
    }

    private void is(String call, int got, int want) {
        calls++;
        DUE.is("run " + run + ", call " + calls + ": " + call, got, want);
    }

    private int column() {
        return about(0, columns() - 1);
    }

    private int columns() {
        int columns = 0;
        while (due.entry(0, columns) != Reference.INVALID) columns++;
        return columns;
    }

    private int element() {
        return about(0, Math.max(due.graverCount() - 1, 0));
    }

    private void callSomething() {
        int kind = below(100);
        if (kind < 3) configure();
        else if (kind < 11) setEntry();
        else if (kind < 14) readText();
        else if (kind < 17) append(CHARACTERS.charAt(below(CHARACTERS.length())));
        else if (kind < 40) askAboutBasis();
        else if (kind < 47) setVector(column(), about(-30, 30));
        else if (kind < 50) setKernelVector();
        else if (kind < 57) askAboutVector();
        else if (kind < 66) setPoint();
        else if (kind < 78) askAboutFiber();
        else if (kind < 88) activate();
        else if (kind < 92) is("isMarkov()", x.isMarkov(), due.isMarkov());
        else if (kind < 94) is("reduce()", x.reduce(), due.reduce());
        else is("undo()", x.undo(), due.undo());
    }

    private void configure() {
        int rows = about(1, 2);
        int columns = about(2, mostColumns);
        if (columns == 4 && mostColumns < 4) return;
        is("configure(" + rows + ", " + columns + ")", x.configure(rows, columns), due.configure(rows, columns));
    }

    private void setEntry() {
        int row = about(0, 1);
        int column = column();
        int value = about(0, 3);
        is("setEntry(" + row + ", " + column + ", " + value + ")", x.setEntry(row, column, value), due.setEntry(row, column, value));
        is("entry(" + row + ", " + column + ")", x.entry(row, column), due.entry(row, column));
    }

    private void append(int character) {
        int code = below(40) == 0 ? about(0, 255) : character;
        is("append(" + code + ")", x.append(code), due.append(code));
    }

    private void readText() {
        if (below(2) == 0) is("clearText()", x.clearText(), due.clearText());
        boolean valid = below(3) > 0;
        int digits = 2 + below(mostColumns - 1);
        int rows = 1 + below(2);
        for (int row = 0; row < rows; row++) {
            if (row > 0) append(';');
            for (int i = 0; i < digits; i++) append('0' + below(4));
            if (below(4) == 0) append(' ');
            if (!valid && below(2) == 0) append(CHARACTERS.charAt(below(CHARACTERS.length())));
        }
        if (below(60) == 0) {
            for (int i = 0; i < 40; i++) append(' ');
        }
        is("loadText()", x.loadText(), due.loadText());
    }

    private void askAboutBasis() {
        int element = element();
        int index = column();
        switch (below(7)) {
            case 0: is("rank()", x.rank(), due.rank()); break;
            case 1: is("isPositive()", x.isPositive(), due.isPositive()); break;
            case 2: is("graverCount()", x.graverCount(), due.graverCount()); break;
            case 3: is("isCircuit(" + element + ")", x.isCircuit(element), due.isCircuit(element)); break;
            case 4: is("isIndispensable(" + element + ")", x.isIndispensable(element), due.isIndispensable(element)); break;
            case 5: is("isActive(" + element + ")", x.isActive(element), due.isActive(element)); break;
            default: is("graverEntry(" + element + ", " + index + ")", x.graverEntry(element, index), due.graverEntry(element, index));
        }
    }

    private void setVector(int index, int value) {
        is("setVector(" + index + ", " + value + ")", x.setVector(index, value), due.setVector(index, value));
    }

    private void setKernelVector() {
        int[] sum = new int[columns()];
        for (int k = below(5) + 1; k > 0 && due.graverCount() > 0; k--) {
            int element = below(due.graverCount());
            int factor = below(9) - 4;
            for (int i = 0; i < sum.length; i++) sum[i] += factor * due.graverEntry(element, i);
        }
        for (int i = 0; i < sum.length; i++) setVector(i, sum[i]);
        askAboutVector();
    }

    private void askAboutVector() {
        is("isInKernel()", x.isInKernel(), due.isInKernel());
        int length = due.decompositionLength();
        is("decompositionLength()", x.decompositionLength(), length);
        int step = about(0, Math.max(length, 0));
        is("decompositionStep(" + step + ")", x.decompositionStep(step), due.decompositionStep(step));
    }

    private void setPoint() {
        int index = column();
        int value = about(0, 5);
        is("setPoint(" + index + ", " + value + ")", x.setPoint(index, value), due.setPoint(index, value));
    }

    private void askAboutFiber() {
        int size = due.fiberSize();
        int number = about(0, Math.max(size, 0));
        int index = column();
        switch (below(5)) {
            case 0: is("fiberSize()", x.fiberSize(), size); break;
            case 1: is("classes()", x.classes(), due.classes()); break;
            case 2: is("distance(" + number + ")", x.distance(number), due.distance(number)); break;
            default: is("fiberEntry(" + number + ", " + index + ")", x.fiberEntry(number, index), due.fiberEntry(number, index));
        }
    }

    private void activate() {
        int element = element();
        int on = below(3) == 0 ? about(0, 1) : 0;
        is("activate(" + element + ", " + on + ")", x.activate(element, on), due.activate(element, on));
    }
}
