/**
 * The edges of promises 1 to 9, each with a test of its own: the matrix, its text, rank and
 * positivity. The document's words stand above each group.
 */
final class MatrixEdgesTest {
    private static final Due DUE = new Due("MatrixEdgesTest");
    private static final int INVALID = Calls.INVALID;
    private static final int ILLEGAL = Calls.ILLEGAL;
    private static final int FULL = Calls.FULL;
    private static final String[] ONES = {"11", "111", "1111"};
    private static final String FORTY_SPACES = " ".repeat(40);

    public static void main(String[] args) {
        newObject();
        configureRows();
        configureColumns();
        configureTheSame();
        configureOtherColumns();
        setEntryRow();
        setEntryColumn();
        setEntryValue();
        setEntryTheSame();
        setEntryBeyondTheShape();
        appendCharacter();
        appendToFullText();
        clearText();
        loadEmptyText();
        loadFullText();
        loadRows();
        loadDigitsOfFirstRow();
        loadDigitsOfSecondRow();
        loadSecondSemicolon();
        loadOtherCharacters();
        loadSpaces();
        loadFirstOfTwoErrors();
        loadedTextBecomesEmpty();
        refusedTextIsKept();
        loadLeavesNothingBehind();
        entry();
        rank();
        isPositive();
        DUE.end();
    }

    // Promise 1: "the matrix 1 1 1, the vector 0, the point 0, and an empty text"

    private static void newObject() {
        DUE.begin("new object: one row, three columns, all entries 1");
        GraverCalculator x = new GraverCalculator();
        DUE.is("matrix", Calls.matrix(x), "111");
        DUE.is("entry(1, 0)", x.entry(1, 0), INVALID);
        DUE.is("entry(0, 3)", x.entry(0, 3), INVALID);

        DUE.begin("new object: the vector is 0");
        DUE.is("isInKernel()", x.isInKernel(), 1);
        DUE.is("vector", Calls.takeVector(new GraverCalculator()), "0 0 0");

        DUE.begin("new object: the point is 0");
        DUE.is("fiber", Calls.fiber(x), "0 0 0");
        DUE.is("point", Calls.takePoint(new GraverCalculator()), "0 0 0");

        DUE.begin("new object: the text is empty");
        DUE.is("loadText()", x.loadText(), -10);
        DUE.is("clearText()", x.clearText(), 0);
        DUE.is("append(49)", x.append('1'), 1);

        DUE.begin("new object: no state is saved");
        DUE.is("undo()", x.undo(), ILLEGAL);

        DUE.begin("new object: all elements are active");
        DUE.is("active", Calls.active(x), "111");

        DUE.begin("two objects have nothing in common");
        GraverCalculator other = Calls.write(Calls.load("12;30"), "3");
        Calls.vector(other, 1, 2);
        GraverCalculator third = new GraverCalculator();
        DUE.is("matrix", Calls.matrix(third), "111");
        DUE.is("clearText()", third.clearText(), 0);
        DUE.is("undo()", third.undo(), ILLEGAL);
        DUE.is("matrix of the other", Calls.matrix(other), "12;30");
    }

    // Promise 2: "rows: 1 or 2; columns: 2 to 4; INVALID_ARGUMENT if an argument is out of range"

    private static void configureRows() {
        for (int rows = 1; rows <= 2; rows++) {
            DUE.begin("configure: rows " + rows);
            GraverCalculator x = new GraverCalculator();
            DUE.is("configure(" + rows + ", 3)", x.configure(rows, 3), 3);
            DUE.is("matrix", Calls.matrix(x), rows == 1 ? "111" : "111;111");
        }
        for (int rows : new int[] {0, 3, -1, Integer.MIN_VALUE, Integer.MAX_VALUE, 257, (1 << 16) + 1, (1 << 31) + 2}) {
            DUE.begin("configure: rows " + rows + " out of range");
            GraverCalculator x = new GraverCalculator();
            for (int columns = 2; columns <= 4; columns++) {
                DUE.is("configure(" + rows + ", " + columns + ")", x.configure(rows, columns), INVALID);
            }
            DUE.is("matrix", Calls.matrix(x), "111");
        }
    }

    private static void configureColumns() {
        for (int columns = 2; columns <= 4; columns++) {
            DUE.begin("configure: columns " + columns);
            GraverCalculator x = new GraverCalculator();
            DUE.is("configure(1, " + columns + ")", x.configure(1, columns), 3);
            DUE.is("matrix", Calls.matrix(x), ONES[columns - 2]);
            DUE.is("entry(0, " + columns + ")", x.entry(0, columns), INVALID);
            DUE.is("configure(2, " + columns + ")", x.configure(2, columns), columns);
            DUE.is("matrix", Calls.matrix(x), ONES[columns - 2] + ";" + ONES[columns - 2]);
        }
        for (int columns : new int[] {1, 5, 0, -1, Integer.MIN_VALUE, Integer.MAX_VALUE, 258, (1 << 16) + 3, (1 << 31) + 4}) {
            DUE.begin("configure: columns " + columns + " out of range");
            GraverCalculator x = new GraverCalculator();
            DUE.is("configure(1, " + columns + ")", x.configure(1, columns), INVALID);
            DUE.is("configure(2, " + columns + ")", x.configure(2, columns), INVALID);
            DUE.is("matrix", Calls.matrix(x), "111");
        }
        DUE.begin("configure: both out of range");
        GraverCalculator x = new GraverCalculator();
        DUE.is("configure(0, 5)", x.configure(0, 5), INVALID);
        DUE.is("configure(3, 1)", x.configure(3, 1), INVALID);
        // The arguments in the wrong order are out of range too.
        DUE.is("configure(4, 2)", x.configure(4, 2), INVALID);
    }

    private static void configureTheSame() {
        DUE.begin("configure: the same shape again makes all entries 1");
        GraverCalculator x = Calls.load("023;310");
        DUE.is("configure(2, 3)", x.configure(2, 3), 3);
        DUE.is("matrix", Calls.matrix(x), "111;111");

        DUE.begin("configure: the same matrix again makes all elements active, and saves");
        x = Calls.allOff(new GraverCalculator());
        DUE.is("active before", Calls.active(x), "000");
        DUE.is("configure(1, 3)", x.configure(1, 3), 3);
        DUE.is("active", Calls.active(x), "111");
        DUE.is("undo()", x.undo(), 3);
        DUE.is("active after undo()", Calls.active(x), "000");

        DUE.begin("configure: the same number of columns keeps vector and point");
        x = Calls.point(Calls.vector(new GraverCalculator(), -30, 1, 30), 5, 0, 1);
        x.configure(2, 3);
        x.configure(1, 3);
        DUE.is("vector", Calls.takeVector(x), "-30 1 30");
        DUE.is("point", Calls.takePoint(x), "5 0 1");
    }

    // "When the number of columns changes, the current vector and the current point become 0."

    private static void configureOtherColumns() {
        for (int columns = 2; columns <= 4; columns += 2) {
            DUE.begin("configure: from 3 to " + columns + " columns, vector and point become 0");
            GraverCalculator x = Calls.point(Calls.vector(new GraverCalculator(), -30, 1, 30), 5, 1, 2);
            x.configure(1, columns);
            DUE.is("isInKernel()", x.isInKernel(), 1);
            DUE.is("fiberSize()", x.fiberSize(), 1);
            DUE.is("vector", Calls.takeVector(x), columns == 2 ? "0 0" : "0 0 0 0");
            DUE.is("point", Calls.takePoint(x), columns == 2 ? "0 0" : "0 0 0 0");
        }
        DUE.begin("configure: there and back, nothing of the vector and the point comes back");
        GraverCalculator x = Calls.point(Calls.vector(new GraverCalculator(), -30, 1, 30), 5, 1, 2);
        x.configure(1, 2);
        x.configure(1, 3);
        DUE.is("vector", Calls.takeVector(x), "0 0 0");
        DUE.is("point", Calls.takePoint(x), "0 0 0");

        DUE.begin("configure: undo() brings back columns, vector and point");
        x = Calls.point(Calls.vector(new GraverCalculator(), -30, 1, 30), 5, 1, 2);
        x.configure(2, 4);
        x.undo();
        DUE.is("matrix", Calls.matrix(x), "111");
        DUE.is("vector", Calls.takeVector(x), "-30 1 30");
        DUE.is("point", Calls.takePoint(x), "5 1 2");
    }

    // Promise 3: "INVALID_ARGUMENT if an argument is out of range; ILLEGAL_STATE if the entry has
    // this value already"

    private static void setEntryRow() {
        DUE.begin("setEntry: the only row");
        GraverCalculator x = new GraverCalculator();
        DUE.is("setEntry(0, 0, 2)", x.setEntry(0, 0, 2), 1);
        DUE.is("setEntry(1, 0, 2)", x.setEntry(1, 0, 2), INVALID);
        DUE.is("matrix", Calls.matrix(x), "211");

        DUE.begin("setEntry: the last row of two");
        x.configure(2, 3);
        DUE.is("setEntry(1, 0, 2)", x.setEntry(1, 0, 2), 1);
        DUE.is("matrix", Calls.matrix(x), "111;211");

        for (int row : new int[] {-1, 2, Integer.MIN_VALUE, Integer.MAX_VALUE, 1 << 30, 256}) {
            DUE.begin("setEntry: row " + row + " out of range");
            DUE.is("setEntry(" + row + ", 0, 3)", x.setEntry(row, 0, 3), INVALID);
            DUE.is("matrix", Calls.matrix(x), "111;211");
        }
    }

    private static void setEntryColumn() {
        for (int columns = 2; columns <= 4; columns++) {
            DUE.begin("setEntry: last column of " + columns);
            GraverCalculator x = new GraverCalculator();
            x.configure(2, columns);
            DUE.is("setEntry(0, n - 1, 3)", x.setEntry(0, columns - 1, 3), 1);
            DUE.is("setEntry(1, n - 1, 0)", x.setEntry(1, columns - 1, 0), 1);
            String front = ONES[columns - 2].substring(1);
            DUE.is("matrix", Calls.matrix(x), front + "3;" + front + "0");

            DUE.begin("setEntry: column n of " + columns);
            DUE.is("setEntry(0, n, 3)", x.setEntry(0, columns, 3), INVALID);
            DUE.is("setEntry(1, n, 3)", x.setEntry(1, columns, 3), INVALID);
            DUE.is("matrix", Calls.matrix(x), front + "3;" + front + "0");
        }
        for (int column : new int[] {-1, -4, Integer.MIN_VALUE, Integer.MAX_VALUE, 1 << 30, 256}) {
            DUE.begin("setEntry: column " + column + " out of range");
            GraverCalculator x = new GraverCalculator();
            x.configure(2, 4);
            DUE.is("setEntry(0, " + column + ", 3)", x.setEntry(0, column, 3), INVALID);
            DUE.is("setEntry(1, " + column + ", 3)", x.setEntry(1, column, 3), INVALID);
            DUE.is("matrix", Calls.matrix(x), "1111;1111");
        }
    }

    private static void setEntryValue() {
        DUE.begin("setEntry: values 0 to 3");
        GraverCalculator x = new GraverCalculator();
        DUE.is("setEntry(0, 1, 0)", x.setEntry(0, 1, 0), 1);
        DUE.is("setEntry(0, 1, 3)", x.setEntry(0, 1, 3), 0);
        DUE.is("setEntry(0, 1, 2)", x.setEntry(0, 1, 2), 3);
        DUE.is("setEntry(0, 1, 1)", x.setEntry(0, 1, 1), 2);
        for (int value : new int[] {-1, 4, Integer.MIN_VALUE, Integer.MAX_VALUE, 256}) {
            DUE.begin("setEntry: value " + value + " out of range");
            DUE.is("setEntry(0, 1, " + value + ")", x.setEntry(0, 1, value), INVALID);
            DUE.is("matrix", Calls.matrix(x), "111");
        }
    }

    private static void setEntryTheSame() {
        GraverCalculator x = Calls.load("0123;3210");
        for (int column = 0; column < 4; column++) {
            DUE.begin("setEntry: the entry has the value " + column + " already");
            DUE.is("setEntry(0, c, c)", x.setEntry(0, column, column), ILLEGAL);
            DUE.is("setEntry(1, c, 3 - c)", x.setEntry(1, column, 3 - column), ILLEGAL);
        }
        DUE.begin("setEntry: refused for the same value, it leaves the active elements and saves nothing");
        x = Calls.off(new GraverCalculator(), 1);
        DUE.is("setEntry(0, 0, 1)", x.setEntry(0, 0, 1), ILLEGAL);
        DUE.is("active", Calls.active(x), "101");
        DUE.is("undo()", x.undo(), 0);

        DUE.begin("setEntry: away and back makes all elements active");
        x = Calls.off(new GraverCalculator(), 1);
        x.setEntry(0, 0, 2);
        x.setEntry(0, 0, 1);
        DUE.is("active", Calls.active(x), "111");
    }

    private static void setEntryBeyondTheShape() {
        DUE.begin("setEntry: out of range stands before the same value");
        GraverCalculator x = new GraverCalculator();
        DUE.is("setEntry(1, 0, 1), no second row", x.setEntry(1, 0, 1), INVALID);
        DUE.is("setEntry(1, 0, 0), no second row", x.setEntry(1, 0, 0), INVALID);
        DUE.is("setEntry(0, 3, 1), no fourth column", x.setEntry(0, 3, 1), INVALID);
        DUE.is("setEntry(0, 3, 0), no fourth column", x.setEntry(0, 3, 0), INVALID);

        DUE.begin("setEntry: a row that is gone");
        x.configure(2, 3);
        x.setEntry(1, 0, 3);
        x.configure(1, 3);
        DUE.is("setEntry(1, 0, 2)", x.setEntry(1, 0, 2), INVALID);
        DUE.is("rank()", x.rank(), 1);
        x.configure(2, 3);
        DUE.is("matrix with a second row again", Calls.matrix(x), "111;111");

        DUE.begin("setEntry: columns that are gone");
        x.configure(2, 4);
        x.setEntry(0, 3, 3);
        x.setEntry(0, 2, 0);
        x.configure(2, 2);
        DUE.is("setEntry(0, 2, 2)", x.setEntry(0, 2, 2), INVALID);
        DUE.is("setEntry(0, 3, 2)", x.setEntry(0, 3, 2), INVALID);
        x.configure(2, 4);
        DUE.is("matrix with four columns again", Calls.matrix(x), "1111;1111");
    }

    // Promise 4: "character code, 0 to 255; CAPACITY_EXCEEDED if the text already has 40 characters"

    private static void appendCharacter() {
        DUE.begin("append: the least and the greatest code");
        GraverCalculator x = new GraverCalculator();
        DUE.is("append(0)", x.append(0), 1);
        DUE.is("append(255)", x.append(255), 2);
        for (int code : new int[] {-1, 256, Integer.MIN_VALUE, Integer.MAX_VALUE, 256 + '1', (1 << 16) + '1'}) {
            DUE.begin("append: code " + code + " out of range");
            GraverCalculator y = Calls.write(new GraverCalculator(), "1");
            DUE.is("append(" + code + ")", y.append(code), INVALID);
            DUE.is("clearText()", y.clearText(), 1);
        }
    }

    private static void appendToFullText() {
        DUE.begin("append: the fortieth character still fits");
        GraverCalculator x = new GraverCalculator();
        for (int length = 1; length <= 39; length++) {
            x.append(' ');
        }
        DUE.is("append(32)", x.append(' '), 40);

        DUE.begin("append: the text is full");
        DUE.is("append(32)", x.append(' '), FULL);
        DUE.is("append(0)", x.append(0), FULL);
        DUE.is("append(255)", x.append(255), FULL);
        DUE.is("clearText()", x.clearText(), 40);

        DUE.begin("append: out of range stands before a full text");
        Calls.write(x, FORTY_SPACES);
        DUE.is("append(-1)", x.append(-1), INVALID);
        DUE.is("append(256)", x.append(256), INVALID);

        DUE.begin("append: what is refused does not come into a full text");
        x = Calls.write(new GraverCalculator(), FORTY_SPACES.substring(2) + "12");
        DUE.is("append(51)", x.append('3'), FULL);
        DUE.is("append(120)", x.append('x'), FULL);
        DUE.is("loadText()", x.loadText(), 1);
        DUE.is("matrix", Calls.matrix(x), "12");

        DUE.begin("append: a full text that loads has room again");
        DUE.is("append(49)", x.append('1'), 1);

        DUE.begin("append: a full text that does not load stays full");
        x = Calls.write(new GraverCalculator(), FORTY_SPACES);
        DUE.is("loadText()", x.loadText(), -50);
        DUE.is("append(49)", x.append('1'), FULL);

        DUE.begin("append: a full text has room again when it is cleared");
        x.clearText();
        DUE.is("append(49)", x.append('1'), 1);
    }

    // Promise 5: "Makes the text empty. Returns the previous length of the text."

    private static void clearText() {
        DUE.begin("clearText: empty");
        GraverCalculator x = new GraverCalculator();
        DUE.is("clearText()", x.clearText(), 0);
        DUE.is("clearText()", x.clearText(), 0);

        DUE.begin("clearText: full");
        Calls.write(x, FORTY_SPACES);
        DUE.is("clearText()", x.clearText(), 40);
        DUE.is("clearText()", x.clearText(), 0);
        DUE.is("loadText()", x.loadText(), -10);

        DUE.begin("clearText: nothing of the cleared text comes back");
        Calls.write(x, "3333;2222");
        x.clearText();
        Calls.write(x, "12");
        DUE.is("loadText()", x.loadText(), 1);
        DUE.is("matrix", Calls.matrix(x), "12");
    }

    // Promise 6: "or -10 minus the error position"; "or the length of the text if the text ends
    // within a row that has too few digits"

    private static void fails(String text, int position) {
        GraverCalculator x = Calls.write(new GraverCalculator(), text);
        DUE.is("loadText() of '" + text + "'", x.loadText(), -10 - position);
        DUE.is("matrix after '" + text + "'", Calls.matrix(x), "111");
        DUE.is("clearText() after '" + text + "'", x.clearText(), text.length());
    }

    private static void loads(String text, String matrix) {
        GraverCalculator x = Calls.write(new GraverCalculator(), text);
        DUE.is("loadText() of '" + text + "'", x.loadText(), matrix.contains(";") ? 2 : 1);
        DUE.is("matrix after '" + text + "'", Calls.matrix(x), matrix);
        DUE.is("clearText() after '" + text + "'", x.clearText(), 0);
    }

    private static void loadEmptyText() {
        DUE.begin("loadText: empty text");
        fails("", 0);
    }

    private static void loadFullText() {
        DUE.begin("loadText: 40 characters");
        loads("0123;3210" + " ".repeat(31), "0123;3210");
        loads(" ".repeat(31) + "0123;3210", "0123;3210");
        loads("0    1    2    3    ;    3    2    1   0", "0123;3210");

        DUE.begin("loadText: an error at the last place of 40");
        fails(" ".repeat(39) + ";", 39);
        fails(" ".repeat(30) + "0123;32100", 39);

        DUE.begin("loadText: 40 characters that end within a row");
        fails(FORTY_SPACES, 40);
        fails(" ".repeat(39) + "1", 40);
        fails(" ".repeat(32) + "0123;321", 40);
    }

    // "one or two rows, separated by ';'"

    private static void loadRows() {
        DUE.begin("loadText: one row");
        loads("111", "111");
        DUE.begin("loadText: two rows");
        loads("111;222", "111;222");
        DUE.begin("loadText: a third row");
        fails("111;222;333", 7);
        DUE.begin("loadText: no first row");
        fails(";", 0);
        fails(";111", 0);
        fails(" ;", 1);
        DUE.begin("loadText: the second row is empty");
        fails("111;", 4);
        fails("11;  ", 5);
    }

    // "each row consists of 2 to 4 digits"; "a fifth digit of a row, a ';' behind fewer than two digits"

    private static void loadDigitsOfFirstRow() {
        DUE.begin("loadText: one digit, the text ends");
        fails("1", 1);
        fails("1 ", 2);
        DUE.begin("loadText: ';' behind one digit");
        fails("1;", 1);
        fails("1 ;11", 2);
        DUE.begin("loadText: two digits");
        loads("01", "01");
        loads("01;23", "01;23");
        DUE.begin("loadText: four digits");
        loads("0123", "0123");
        loads("0123;3210", "0123;3210");
        DUE.begin("loadText: a fifth digit of the first row");
        fails("01230", 4);
        fails("0123 0", 5);
        fails("01230;01230", 4);
    }

    // "the second row has as many digits as the first one"; "a digit of the second row beyond the
    // number of digits of the first one"

    private static void loadDigitsOfSecondRow() {
        String[] rows = {"11", "111", "1111"};
        for (String row : rows) {
            int n = row.length();
            DUE.begin("loadText: " + n + " digits, and as many in the second row");
            loads(row + ";" + row, row + ";" + row);
            DUE.begin("loadText: " + n + " digits, and one fewer in the second row");
            fails(row + ";" + row.substring(1), 2 * n);
            fails(row + ";" + row.substring(1) + " ", 2 * n + 1);
            DUE.begin("loadText: " + n + " digits, and one more in the second row");
            fails(row + ";" + row + "1", 2 * n + 1);
            fails(row + ";" + row + " 1", 2 * n + 2);
        }
        DUE.begin("loadText: four digits, and two in the second row");
        fails("1111;11", 7);
    }

    private static void loadSecondSemicolon() {
        DUE.begin("loadText: a second ';' at once");
        fails("11;;", 3);
        fails("11; ;11", 4);
        DUE.begin("loadText: a second ';' within the second row");
        fails("111;11;", 6);
        DUE.begin("loadText: a second ';' behind a full second row");
        fails("11;11;", 5);
        fails("1111;1111;", 9);
    }

    // "digits from 0 to 3"; "The text is read from left to right."

    private static void loadOtherCharacters() {
        DUE.begin("loadText: the least and the greatest digit");
        loads("03;30", "03;30");
        // Beside the digits 48 to 51, the ';' 59 and the space 32; and the same with a higher bit.
        int[] codes = {'/', '4', '9', ':', '<', 31, 33, 0, 9, 10, 13, '-', ',', '.', 'a', 127, 128 + '1', 128 + ';', 160, 255};
        for (int code : codes) {
            DUE.begin("loadText: character " + code + " is never allowed");
            char c = (char) code;
            fails(c + "11", 0);
            fails("1" + c + "1", 1);
            fails("11" + c, 2);
            fails("11;" + c + "1", 3);
            fails("11;11" + c, 5);
        }
    }

    // "Spaces (code 32) are allowed everywhere."

    private static void loadSpaces() {
        DUE.begin("loadText: spaces everywhere");
        loads("   0 1  2 ;  3 2 1   ", "012;321");
        loads(" 0 3 ", "03");
        DUE.begin("loadText: spaces alone");
        fails(" ", 1);
        fails("   ", 3);
        DUE.begin("loadText: a space does not end a row");
        fails("11 11 11", 6);
    }

    private static void loadFirstOfTwoErrors() {
        DUE.begin("loadText: the first of two errors");
        fails("4x", 0);
        fails("1;4", 1);
        fails("11;4;", 3);
        fails("01230x", 4);
        DUE.begin("loadText: a character that is not allowed, before the row's too few digits");
        fails("x", 0);
        fails("1x", 1);
        fails("111;1x", 5);
    }

    // "The text becomes empty."; "then nothing changes, and the text is kept"

    private static void loadedTextBecomesEmpty() {
        DUE.begin("loadText: the text becomes empty, so a second load fails");
        GraverCalculator x = Calls.write(new GraverCalculator(), "12;30");
        DUE.is("loadText()", x.loadText(), 2);
        DUE.is("loadText() again", x.loadText(), -10);
        DUE.is("matrix", Calls.matrix(x), "12;30");

        DUE.begin("loadText: undo() does not bring the text back");
        DUE.is("undo()", x.undo(), 0);
        DUE.is("loadText()", x.loadText(), -10);
        DUE.is("clearText()", x.clearText(), 0);
    }

    private static void refusedTextIsKept() {
        DUE.begin("loadText: what ends too early can be ended");
        GraverCalculator x = Calls.write(new GraverCalculator(), "03");
        x.append(';');
        DUE.is("loadText() of 03;", x.loadText(), -13);
        x.append('2');
        DUE.is("loadText() of 03;2", x.loadText(), -14);
        x.append('1');
        DUE.is("loadText() of 03;21", x.loadText(), 2);
        DUE.is("matrix", Calls.matrix(x), "03;21");

        DUE.begin("loadText: an error stays where it is");
        Calls.write(x, "4");
        DUE.is("loadText()", x.loadText(), -10);
        Calls.write(x, "111");
        DUE.is("loadText() with more behind it", x.loadText(), -10);
        DUE.is("clearText()", x.clearText(), 4);

        DUE.begin("loadText: an error in the second row leaves the matrix as it is");
        Calls.write(x, "33;3x");
        DUE.is("loadText()", x.loadText(), -14);
        DUE.is("matrix", Calls.matrix(x), "03;21");
        DUE.is("undo()", x.undo(), 0);
    }

    private static void loadLeavesNothingBehind() {
        DUE.begin("loadText: a smaller matrix behind a greater one");
        GraverCalculator x = Calls.load("1111;0123");
        Calls.write(x, "12");
        DUE.is("loadText()", x.loadText(), 1);
        DUE.is("matrix", Calls.matrix(x), "12");
        DUE.is("rank()", x.rank(), 1);
        DUE.is("basis", Calls.basis(x), "2 -1");

        DUE.begin("loadText: the same matrix again makes all elements active, and saves");
        x.activate(0, 0);
        Calls.write(x, "12");
        DUE.is("loadText()", x.loadText(), 1);
        DUE.is("active", Calls.active(x), "1");
        x.undo();
        DUE.is("active after undo()", Calls.active(x), "0");

        DUE.begin("loadText: other columns make vector and point 0");
        x = Calls.write(Calls.point(Calls.vector(new GraverCalculator(), -30, 1, 30), 5, 1, 2), "12");
        x.loadText();
        DUE.is("vector", Calls.takeVector(x), "0 0");
        DUE.is("point", Calls.takePoint(x), "0 0");

        DUE.begin("loadText: the same number of columns keeps vector and point");
        x = Calls.write(Calls.point(Calls.vector(new GraverCalculator(), -30, 1, 30), 5, 1, 2), "123;321");
        x.loadText();
        DUE.is("vector", Calls.takeVector(x), "-30 1 30");
        DUE.is("point", Calls.takePoint(x), "5 1 2");
    }

    // Promise 7: "INVALID_ARGUMENT if an argument is out of range"

    private static void entry() {
        String[] matrices = {"01", "012", "0123", "01;23", "012;321", "0123;3210"};
        for (String text : matrices) {
            DUE.begin("entry: inside and beside " + text);
            GraverCalculator x = Calls.load(text);
            String[] rows = text.split(";");
            for (int row = -1; row <= 2; row++) {
                for (int column = -1; column <= 4; column++) {
                    boolean inside = row >= 0 && row < rows.length && column >= 0 && column < rows[0].length();
                    DUE.is("entry(" + row + ", " + column + ")", x.entry(row, column), inside ? rows[row].charAt(column) - '0' : INVALID);
                }
            }
        }
        for (int far : new int[] {Integer.MIN_VALUE, Integer.MAX_VALUE, 1 << 30, -(1 << 30), 256}) {
            DUE.begin("entry: " + far + " out of range");
            GraverCalculator x = Calls.load("0123;3210");
            DUE.is("entry(far, 0)", x.entry(far, 0), INVALID);
            DUE.is("entry(0, far)", x.entry(0, far), INVALID);
            DUE.is("entry(far, far)", x.entry(far, far), INVALID);
        }
    }

    // Promise 8: "Returns 0 to 2."

    private static void rank() {
        DUE.begin("rank: 0, all entries are 0");
        for (String text : new String[] {"00", "000", "0000", "00;00", "000;000", "0000;0000"}) {
            DUE.is("rank() of " + text, Calls.load(text).rank(), 0);
        }
        DUE.begin("rank: 1, a single entry other than 0");
        for (String text : new String[] {"01", "10", "0001", "00;01", "0010;0000", "0000;0003", "0000;1000"}) {
            DUE.is("rank() of " + text, Calls.load(text).rank(), 1);
        }
        DUE.begin("rank: 1, one row a multiple of the other");
        for (String text : new String[] {"0123;0123", "11;33", "33;11", "011;022", "1010;3030"}) {
            DUE.is("rank() of " + text, Calls.load(text).rank(), 1);
        }
        DUE.begin("rank: 2, only the last column makes it");
        for (String text : new String[] {"11;12", "111;112", "1111;1112", "0001;1110", "0010;0001", "2222;2221"}) {
            DUE.is("rank() of " + text, Calls.load(text).rank(), 2);
        }
    }

    // Promise 9: "The matrix is positive if no column consists of zeros alone."

    private static void isPositive() {
        DUE.begin("isPositive: a zero in each place of one row");
        for (String text : new String[] {"01", "10", "011", "101", "110", "0111", "1011", "1101", "1110"}) {
            DUE.is("isPositive() of " + text, Calls.load(text).isPositive(), 0);
        }
        DUE.begin("isPositive: a column of two zeros in each place");
        for (String text : new String[] {"01;01", "10;10", "0111;0111", "1011;1011", "1101;1101", "1110;1110"}) {
            DUE.is("isPositive() of " + text, Calls.load(text).isPositive(), 0);
        }
        DUE.begin("isPositive: one zero of two in each column");
        for (String text : new String[] {"01;10", "10;01", "0000;1111", "3333;0000", "0101;1010", "011;100"}) {
            DUE.is("isPositive() of " + text, Calls.load(text).isPositive(), 1);
        }
        DUE.begin("isPositive: all zeros");
        DUE.is("isPositive() of 00", Calls.load("00").isPositive(), 0);
        DUE.is("isPositive() of 0000;0000", Calls.load("0000;0000").isPositive(), 0);
        DUE.begin("isPositive: no zero");
        DUE.is("isPositive() of 11", Calls.load("11").isPositive(), 1);
        DUE.is("isPositive() of 3333;3333", Calls.load("3333;3333").isPositive(), 1);
        DUE.begin("isPositive: the second row goes, and with it what made the column positive");
        GraverCalculator x = Calls.load("101;010");
        DUE.is("isPositive() of 101;010", x.isPositive(), 1);
        Calls.write(x, "101");
        x.loadText();
        DUE.is("isPositive() of 101", x.isPositive(), 0);
        x.undo();
        DUE.is("isPositive() after undo()", x.isPositive(), 1);
    }
}
