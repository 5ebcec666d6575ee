/**
 * Brings a calculator where a test of edges wants it, and tells what it holds as a text. The
 * document promises 512 calls of an object, so what tells asks for counts once.
 */
final class Calls {
    static final int INVALID = -1001;
    static final int ILLEGAL = -1002;
    static final int FULL = -1003;
    static final int NONE = -1009;

    private static final int MOST_ROWS = 2;
    private static final int MOST_COLUMNS = 4;

    private Calls() {
    }

    // ---- bringing it there

    static GraverCalculator write(GraverCalculator x, String text) {
        for (int i = 0; i < text.length(); i++) {
            x.append(text.charAt(i));
        }
        return x;
    }

    /** Loads the text into a new object; one state is saved then. */
    static GraverCalculator load(String text) {
        GraverCalculator x = write(new GraverCalculator(), text);
        if (x.loadText() < 0) {
            throw new IllegalStateException("no matrix: " + text);
        }
        return x;
    }

    static GraverCalculator vector(GraverCalculator x, int... entries) {
        for (int i = 0; i < entries.length; i++) {
            x.setVector(i, entries[i]);
        }
        return x;
    }

    static GraverCalculator point(GraverCalculator x, int... entries) {
        for (int i = 0; i < entries.length; i++) {
            x.setPoint(i, entries[i]);
        }
        return x;
    }

    static GraverCalculator off(GraverCalculator x, int... elements) {
        for (int element : elements) {
            x.activate(element, 0);
        }
        return x;
    }

    static GraverCalculator allOff(GraverCalculator x) {
        int count = x.graverCount();
        for (int element = 0; element < count; element++) {
            x.activate(element, 0);
        }
        return x;
    }

    // ---- telling what it holds, changing nothing

    static int columns(GraverCalculator x) {
        int columns = 0;
        while (columns < MOST_COLUMNS && x.entry(0, columns) >= 0) {
            columns++;
        }
        return columns;
    }

    static String matrix(GraverCalculator x) {
        StringBuilder text = new StringBuilder();
        int columns = columns(x);
        for (int row = 0; row < MOST_ROWS && x.entry(row, 0) >= 0; row++) {
            text.append(row > 0 ? ";" : "");
            for (int column = 0; column < columns; column++) {
                text.append(x.entry(row, column));
            }
        }
        return text.toString();
    }

    static String basis(GraverCalculator x) {
        StringBuilder text = new StringBuilder();
        int columns = columns(x);
        int count = x.graverCount();
        for (int element = 0; element < count; element++) {
            text.append(element > 0 ? ", " : "");
            for (int i = 0; i < columns; i++) {
                text.append(i > 0 ? " " : "").append(x.graverEntry(element, i));
            }
        }
        return text.toString();
    }

    static String active(GraverCalculator x) {
        StringBuilder text = new StringBuilder();
        int count = x.graverCount();
        for (int element = 0; element < count; element++) {
            text.append(x.isActive(element));
        }
        return text.toString();
    }

    static String circuits(GraverCalculator x) {
        StringBuilder text = new StringBuilder();
        int count = x.graverCount();
        for (int element = 0; element < count; element++) {
            text.append(x.isCircuit(element));
        }
        return text.toString();
    }

    static String decomposition(GraverCalculator x) {
        StringBuilder text = new StringBuilder();
        int length = x.decompositionLength();
        for (int step = 0; step < length; step++) {
            text.append(step > 0 ? " " : "").append(x.decompositionStep(step));
        }
        return text.toString();
    }

    static String fiber(GraverCalculator x) {
        StringBuilder text = new StringBuilder();
        int columns = columns(x);
        int size = x.fiberSize();
        for (int number = 0; number < size; number++) {
            text.append(number > 0 ? ", " : "");
            for (int i = 0; i < columns; i++) {
                text.append(i > 0 ? " " : "").append(x.fiberEntry(number, i));
            }
        }
        return text.toString();
    }

    static String distances(GraverCalculator x) {
        StringBuilder text = new StringBuilder();
        int size = x.fiberSize();
        for (int number = 0; number < size; number++) {
            int distance = x.distance(number);
            text.append(number > 0 ? " " : "").append(distance == NONE ? "-" : String.valueOf(distance));
        }
        return text.toString();
    }

    // ---- telling what it holds by setting it to 0

    static String takeVector(GraverCalculator x) {
        StringBuilder text = new StringBuilder();
        int columns = columns(x);
        for (int i = 0; i < columns; i++) {
            text.append(i > 0 ? " " : "").append(x.setVector(i, 0));
        }
        return text.toString();
    }

    static String takePoint(GraverCalculator x) {
        StringBuilder text = new StringBuilder();
        int columns = columns(x);
        for (int i = 0; i < columns; i++) {
            text.append(i > 0 ? " " : "").append(x.setPoint(i, 0));
        }
        return text.toString();
    }
}
