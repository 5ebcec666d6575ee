/**
 * The edges of promises 18 to 26, each with a test of its own: the current point, its fiber, and
 * the moves. The document's words stand above each group.
 */
final class FiberEdgesTest {
    private static final Due DUE = new Due("FiberEdgesTest");
    private static final int INVALID = Calls.INVALID;
    private static final int ILLEGAL = Calls.ILLEGAL;
    private static final int NONE = Calls.NONE;
    private static final int[] FAR = {Integer.MIN_VALUE, -(1 << 30), -32, -1, 32, 64, 256, 1 << 30, Integer.MAX_VALUE};
    private static final String[] NOT_POSITIVE = {"01", "110", "1011", "00;00", "0111;0111", "0000"};

    public static void main(String[] args) {
        setPointIndex();
        setPointValue();
        fiberOfZero();
        fiberOfOneVector();
        greatestFiber();
        greatestFiberEntry();
        fiberOrder();
        fiberEntryNumber();
        fiberEntryIndex();
        fiberNotPositive();
        fiberErrorsInOrder();
        fiberFollowsTheState();
        activateElement();
        activateOn();
        activateTheSame();
        activateFirstAndLast();
        activateNotPositive();
        isActiveElement();
        activeAgain();
        notActiveAgain();
        classesFewestAndMost();
        classesOfASmallerFiber();
        stepsToZeroAndBelow();
        classesNotPositive();
        distanceToItself();
        distanceNumber();
        distanceNotConnected();
        distanceErrorsInOrder();
        distanceLongest();
        markovWithoutElements();
        markovNoneActive();
        markovJustEnough();
        markovNotPositive();
        reduceWithoutElements();
        reduceOneElement();
        reduceInDescendingOrder();
        reduceFirstElement();
        reduceTwice();
        reduceLeavesTheInactive();
        reduceRefused();
        DUE.end();
    }

    // Promise 18: "index: 0 to n - 1; value: 0 to 5"

    private static void setPointIndex() {
        for (int columns = 2; columns <= 4; columns++) {
            DUE.begin("setPoint: the last index of " + columns + " and the one behind it");
            GraverCalculator x = new GraverCalculator();
            x.configure(1, columns);
            DUE.is("setPoint(n - 1, 4)", x.setPoint(columns - 1, 4), 0);
            DUE.is("setPoint(n, 4)", x.setPoint(columns, 4), INVALID);
            DUE.is("setPoint(n - 1, 3)", x.setPoint(columns - 1, 3), 4);
        }
        for (int far : FAR) {
            DUE.begin("setPoint: index " + far + " out of range");
            GraverCalculator x = new GraverCalculator();
            DUE.is("setPoint(" + far + ", 1)", x.setPoint(far, 1), INVALID);
            DUE.is("point", Calls.takePoint(x), "0 0 0");
        }
        DUE.begin("setPoint: an index that is gone");
        GraverCalculator x = Calls.point(Calls.load("1111"), 1, 2, 3, 4);
        x.configure(1, 3);
        DUE.is("setPoint(3, 5)", x.setPoint(3, 5), INVALID);
    }

    private static void setPointValue() {
        DUE.begin("setPoint: 0 and 5");
        GraverCalculator x = new GraverCalculator();
        DUE.is("setPoint(0, 5)", x.setPoint(0, 5), 0);
        DUE.is("setPoint(0, 0)", x.setPoint(0, 0), 5);
        for (int value : new int[] {-1, 6, Integer.MIN_VALUE, Integer.MAX_VALUE, 256, 1 << 30}) {
            DUE.begin("setPoint: value " + value + " out of range");
            DUE.is("setPoint(0, " + value + ")", x.setPoint(0, value), INVALID);
            DUE.is("setPoint(0, 0)", x.setPoint(0, 0), 0);
        }
        DUE.begin("setPoint: index and value out of range");
        DUE.is("setPoint(3, 6)", x.setPoint(3, 6), INVALID);
        DUE.is("setPoint(-1, -1)", x.setPoint(-1, -1), INVALID);
        DUE.begin("setPoint: the same value is no error, and is saved");
        x = new GraverCalculator();
        DUE.is("setPoint(0, 0)", x.setPoint(0, 0), 0);
        DUE.is("undo()", x.undo(), 0);
        DUE.begin("setPoint: the matrix need not be positive");
        x = Calls.load("00");
        DUE.is("setPoint(1, 5)", x.setPoint(1, 5), 0);
        DUE.is("setPoint(1, 0)", x.setPoint(1, 0), 5);
    }

    // Promises 19 and 20: "If A is positive, the fiber of a point x consists of all vectors y with
    // nonnegative entries for which A * y is A * x."

    private static void fiberOfZero() {
        for (String text : new String[] {"11", "111", "1111", "2233", "10;01", "1111;0123"}) {
            DUE.begin("the fiber of 0 holds 0 alone: " + text);
            GraverCalculator x = Calls.load(text);
            DUE.is("fiberSize()", x.fiberSize(), 1);
            DUE.is("fiberEntry(0, 0)", x.fiberEntry(0, 0), 0);
            DUE.is("fiberEntry(0, 1)", x.fiberEntry(0, 1), 0);
            DUE.is("fiberEntry(1, 0)", x.fiberEntry(1, 0), NONE);
            DUE.is("classes()", x.classes(), 1);
            DUE.is("distance(0)", x.distance(0), 0);
            DUE.is("distance(1)", x.distance(1), NONE);
        }
    }

    private static void fiberOfOneVector() {
        DUE.begin("a fiber of one vector: rank n");
        GraverCalculator x = Calls.point(Calls.load("11;12"), 5, 4);
        DUE.is("fiber", Calls.fiber(x), "5 4");
        DUE.is("classes()", x.classes(), 1);
        DUE.begin("a fiber of one vector: the point is too small for a step");
        DUE.is("fiber of 1 0 by 12", Calls.fiber(Calls.point(Calls.load("12"), 1, 0)), "1 0");
        DUE.is("fiber of 0 1 0 by 123;321", Calls.fiber(Calls.point(Calls.load("123;321"), 0, 1, 0)), "0 1 0");
        DUE.begin("a fiber of two vectors: the point is just great enough for a step");
        DUE.is("fiber of 2 0 by 12", Calls.fiber(Calls.point(Calls.load("12"), 2, 0)), "0 1, 2 0");
        DUE.is("fiber of 0 2 0 by 123;321", Calls.fiber(Calls.point(Calls.load("123;321"), 0, 2, 0)), "0 2 0, 1 0 1");
    }

    private static void greatestFiber() {
        DUE.begin("1991 vectors, the most of any fiber");
        GraverCalculator x = Calls.point(Calls.load("1113"), 5, 5, 5, 5);
        DUE.is("fiberSize()", x.fiberSize(), 1991);
        DUE.is("fiberEntry(0, 3)", x.fiberEntry(0, 3), 10);
        DUE.is("fiberEntry(1990, 0)", x.fiberEntry(1990, 0), 30);
        DUE.is("fiberEntry(1991, 0)", x.fiberEntry(1991, 0), NONE);
        DUE.is("classes()", x.classes(), 1);
        // From 5 5 5 5 to 30 0 0 0: a step takes 1 at most from 2/3 * (y1 + y2) + y3, which is 35/3.
        DUE.is("distance(1990)", x.distance(1990), 12);
        DUE.is("distance(1991)", x.distance(1991), NONE);
        DUE.begin("1991 vectors, no element active");
        Calls.allOff(x);
        DUE.is("classes()", x.classes(), 1991);
        DUE.is("distance(0)", x.distance(0), NONE);
        DUE.is("distance(1990)", x.distance(1990), NONE);
    }

    private static void greatestFiberEntry() {
        DUE.begin("entries to 50, the greatest of any fiber");
        GraverCalculator x = Calls.point(Calls.load("1333"), 5, 5, 5, 5);
        int last = x.fiberSize() - 1;
        DUE.is("fiberEntry(last, 0)", x.fiberEntry(last, 0), 50);
        DUE.is("fiberEntry(last, 3)", x.fiberEntry(last, 3), 0);
        x = Calls.point(Calls.load("3331;3331"), 5, 5, 5, 5);
        DUE.is("fiberEntry(0, 3)", x.fiberEntry(0, 3), 50);
        DUE.begin("the greatest products: 60 in each row");
        x = Calls.point(Calls.load("3333;3333"), 5, 5, 5, 5);
        DUE.is("fiberSize()", x.fiberSize(), 1771);
        DUE.is("fiberEntry(0, 3)", x.fiberEntry(0, 3), 20);
        DUE.is("fiberEntry(1770, 0)", x.fiberEntry(1770, 0), 20);
    }

    // "numbered from 0 in ascending lexicographic order"

    private static void fiberOrder() {
        DUE.begin("the first and the last vector in lexicographic order");
        DUE.is("fiber of 2 0 0", Calls.fiber(Calls.point(new GraverCalculator(), 2, 0, 0)),
            "0 0 2, 0 1 1, 0 2 0, 1 0 1, 1 1 0, 2 0 0");
        DUE.is("fiber of 2 0 0 2", Calls.fiber(Calls.point(Calls.load("1111;0123"), 2, 0, 0, 2)),
            "0 2 2 0, 0 3 0 1, 1 0 3 0, 1 1 1 1, 2 0 0 2");
        DUE.begin("numbers of two digits are in order too");
        DUE.is("fiber of 5 5", Calls.fiber(Calls.point(Calls.load("11"), 5, 5)),
            "0 10, 1 9, 2 8, 3 7, 4 6, 5 5, 6 4, 7 3, 8 2, 9 1, 10 0");
    }

    // "INVALID_ARGUMENT if number is negative, or if index is out of range; ... NONE if the fiber
    // has no such vector"

    private static void fiberEntryNumber() {
        DUE.begin("fiberEntry: the last vector and the one behind it");
        GraverCalculator x = Calls.point(new GraverCalculator(), 2, 0, 0);
        DUE.is("fiberEntry(5, 0)", x.fiberEntry(5, 0), 2);
        DUE.is("fiberEntry(6, 0)", x.fiberEntry(6, 0), NONE);
        for (int far : FAR) {
            DUE.begin("fiberEntry: number " + far);
            DUE.is("fiberEntry(" + far + ", 0)", x.fiberEntry(far, 0), far < 0 ? INVALID : NONE);
        }
        DUE.begin("fiberEntry: what a greater fiber left behind is not told");
        Calls.point(x, 0, 0, 0);
        DUE.is("fiberEntry(0, 2)", x.fiberEntry(0, 2), 0);
        DUE.is("fiberEntry(1, 2)", x.fiberEntry(1, 2), NONE);
        DUE.is("fiberEntry(5, 0)", x.fiberEntry(5, 0), NONE);
    }

    private static void fiberEntryIndex() {
        for (String text : new String[] {"11", "111", "1111"}) {
            int n = text.length();
            DUE.begin("fiberEntry: the last index of " + n + " and the one behind it");
            GraverCalculator x = Calls.load(text);
            x.setPoint(n - 1, 1);
            DUE.is("fiberEntry(0, n - 1)", x.fiberEntry(0, n - 1), 1);
            DUE.is("fiberEntry(0, n)", x.fiberEntry(0, n), INVALID);
            DUE.is("fiberEntry(0, -1)", x.fiberEntry(0, -1), INVALID);
        }
        for (int far : FAR) {
            DUE.begin("fiberEntry: index " + far + " out of range");
            DUE.is("fiberEntry(0, " + far + ")", new GraverCalculator().fiberEntry(0, far), INVALID);
        }
    }

    // "ILLEGAL_STATE if the matrix is not positive"

    private static void fiberNotPositive() {
        for (String text : NOT_POSITIVE) {
            DUE.begin("fiberSize and fiberEntry: not positive: " + text);
            GraverCalculator x = Calls.load(text);
            DUE.is("fiberSize()", x.fiberSize(), ILLEGAL);
            DUE.is("fiberEntry(0, 0)", x.fiberEntry(0, 0), ILLEGAL);
        }
    }

    private static void fiberErrorsInOrder() {
        GraverCalculator x = Calls.load("110");
        DUE.begin("fiberEntry: a negative number stands before not positive");
        DUE.is("fiberEntry(-1, 0)", x.fiberEntry(-1, 0), INVALID);
        DUE.begin("fiberEntry: an index out of range stands before not positive");
        DUE.is("fiberEntry(0, 3)", x.fiberEntry(0, 3), INVALID);
        DUE.is("fiberEntry(0, -1)", x.fiberEntry(0, -1), INVALID);
        DUE.begin("fiberEntry: not positive stands before no such vector");
        DUE.is("fiberEntry(9999, 0)", x.fiberEntry(9999, 0), ILLEGAL);
        DUE.begin("fiberEntry: an index out of range stands before no such vector");
        DUE.is("fiberEntry(9999, 3)", new GraverCalculator().fiberEntry(9999, 3), INVALID);
        DUE.begin("fiberEntry: number and index both wrong");
        DUE.is("fiberEntry(-1, 3)", new GraverCalculator().fiberEntry(-1, 3), INVALID);
    }

    private static void fiberFollowsTheState() {
        DUE.begin("the fiber follows each change of point and matrix");
        GraverCalculator x = Calls.point(new GraverCalculator(), 2, 0, 0);
        DUE.is("fiberSize() of 2 0 0 by 111", x.fiberSize(), 6);
        x.setEntry(0, 1, 2);
        DUE.is("fiberSize() of 2 0 0 by 121", x.fiberSize(), 4);
        x.setPoint(0, 3);
        DUE.is("fiberSize() of 3 0 0 by 121", x.fiberSize(), 6);
        x.setEntry(0, 1, 0);
        DUE.is("fiberSize() of 3 0 0 by 101", x.fiberSize(), ILLEGAL);
        x.undo();
        DUE.is("fiberSize() after undo()", x.fiberSize(), 6);
        x.configure(2, 3);
        DUE.is("fiberSize() of 3 0 0 by 111;111", x.fiberSize(), 10);
        x.configure(1, 4);
        DUE.is("fiberSize() of 0 0 0 0 by 1111", x.fiberSize(), 1);
        Calls.write(x, "11").loadText();
        DUE.is("fiberSize() of 0 0 by 11", x.fiberSize(), 1);
        x.undo();
        x.undo();
        x.undo();
        DUE.is("fiberSize() after three more undo()", x.fiberSize(), 6);
        DUE.begin("the fiber does not ask for active elements, nor for the vector");
        Calls.allOff(x);
        x.setVector(0, 9);
        DUE.is("fiberSize()", x.fiberSize(), 6);
    }

    // Promise 21: "INVALID_ARGUMENT if there is no such element, or if on is neither 0 nor 1;
    // ILLEGAL_STATE if that is so already"

    private static void activateElement() {
        DUE.begin("activate: the last element and the one behind it");
        GraverCalculator x = new GraverCalculator();
        DUE.is("activate(2, 0)", x.activate(2, 0), 2);
        DUE.is("activate(3, 0)", x.activate(3, 0), INVALID);
        DUE.is("activate(3, 1)", x.activate(3, 1), INVALID);
        for (int far : FAR) {
            DUE.begin("activate: no element " + far);
            DUE.is("activate(" + far + ", 0)", x.activate(far, 0), INVALID);
            DUE.is("activate(" + far + ", 1)", x.activate(far, 1), INVALID);
            DUE.is("active", Calls.active(x), "110");
        }
    }

    private static void activateOn() {
        for (int on : new int[] {-1, 2, Integer.MIN_VALUE, Integer.MAX_VALUE, 256, 257, 1 << 16}) {
            DUE.begin("activate: on " + on + " is neither 0 nor 1");
            GraverCalculator x = Calls.off(new GraverCalculator(), 1);
            DUE.is("activate(0, " + on + ")", x.activate(0, on), INVALID);
            DUE.is("activate(1, " + on + ")", x.activate(1, on), INVALID);
            DUE.is("activate(3, " + on + ")", x.activate(3, on), INVALID);
            DUE.is("active", Calls.active(x), "101");
        }
    }

    private static void activateTheSame() {
        DUE.begin("activate: active already");
        GraverCalculator x = new GraverCalculator();
        DUE.is("activate(0, 1)", x.activate(0, 1), ILLEGAL);
        DUE.is("activate(2, 1)", x.activate(2, 1), ILLEGAL);
        DUE.begin("activate: inactive already");
        x.activate(1, 0);
        DUE.is("activate(1, 0)", x.activate(1, 0), ILLEGAL);
        DUE.is("active", Calls.active(x), "101");
        DUE.begin("activate: on and off again, as often as one likes");
        DUE.is("activate(1, 1)", x.activate(1, 1), 3);
        DUE.is("activate(1, 1)", x.activate(1, 1), ILLEGAL);
        DUE.is("activate(1, 0)", x.activate(1, 0), 2);
    }

    private static void activateFirstAndLast() {
        DUE.begin("activate: down to none, and up to all 14");
        GraverCalculator x = Calls.load("2233");
        for (int element = 0; element < 14; element++) {
            DUE.is("activate(" + element + ", 0)", x.activate(element, 0), 13 - element);
        }
        DUE.is("active", Calls.active(x), "0".repeat(14));
        for (int element = 13; element >= 0; element--) {
            DUE.is("activate(" + element + ", 1)", x.activate(element, 1), 14 - element);
        }
        DUE.is("active", Calls.active(x), "1".repeat(14));
        DUE.is("activate(14, 0)", x.activate(14, 0), INVALID);
    }

    private static void activateNotPositive() {
        DUE.begin("activate: the matrix need not be positive");
        GraverCalculator x = Calls.load("0000");
        DUE.is("activate(3, 0)", x.activate(3, 0), 3);
        DUE.is("isActive(3)", x.isActive(3), 0);
        DUE.is("activate(3, 1)", x.activate(3, 1), 4);
    }

    // Promise 22: "INVALID_ARGUMENT if there is no such element"

    private static void isActiveElement() {
        DUE.begin("isActive: the last element and the one behind it");
        GraverCalculator x = new GraverCalculator();
        DUE.is("isActive(2)", x.isActive(2), 1);
        DUE.is("isActive(3)", x.isActive(3), INVALID);
        for (int far : FAR) {
            DUE.begin("isActive: no element " + far);
            DUE.is("isActive(" + far + ")", x.isActive(far), INVALID);
        }
    }

    // "at first, and after each successful call of configure(), setEntry() and loadText() (also if
    // the matrix is the same as before), all of them are active"

    private static void activeAgain() {
        DUE.begin("all active after configure() of the same matrix");
        GraverCalculator x = Calls.off(new GraverCalculator(), 0, 2);
        x.configure(1, 3);
        DUE.is("active", Calls.active(x), "111");
        DUE.begin("all active after loadText() of the same matrix");
        Calls.write(Calls.off(x, 0, 2), "111").loadText();
        DUE.is("active", Calls.active(x), "111");
        DUE.begin("all active after setEntry(), though the basis may be the same");
        Calls.allOff(x);
        x.configure(2, 3);
        x.activate(0, 0);
        x.setEntry(0, 0, 2);
        DUE.is("basis of 211;111", Calls.basis(x), "0 1 -1");
        x.activate(0, 0);
        x.setEntry(0, 0, 3);
        DUE.is("basis of 311;111", Calls.basis(x), "0 1 -1");
        DUE.is("active", Calls.active(x), "1");
        DUE.begin("all active when the basis grows");
        x = Calls.off(Calls.load("11"), 0);
        x.configure(1, 4);
        DUE.is("active", Calls.active(x), "111111");
    }

    private static void notActiveAgain() {
        DUE.begin("a refused call makes nothing active");
        GraverCalculator x = Calls.off(new GraverCalculator(), 0, 2);
        x.configure(0, 3);
        x.configure(1, 5);
        x.setEntry(0, 0, 1);
        x.setEntry(0, 0, 4);
        x.loadText();
        Calls.write(x, "111;11").loadText();
        DUE.is("active", Calls.active(x), "010");
        DUE.begin("calls of vector, point and text make nothing active");
        x.setVector(0, 3);
        x.setPoint(0, 3);
        x.clearText();
        x.append('1');
        DUE.is("active", Calls.active(x), "010");
    }

    // Promise 23: "two vectors are in the same class if they are connected by steps"

    private static void classesFewestAndMost() {
        DUE.begin("classes: none active, each vector is a class");
        GraverCalculator x = Calls.allOff(Calls.point(new GraverCalculator(), 2, 0, 0));
        DUE.is("classes()", x.classes(), 6);
        DUE.begin("classes: all active, one class");
        x.configure(1, 3);
        DUE.is("classes()", x.classes(), 1);
        DUE.begin("classes: one element active");
        Calls.off(x, 1, 2);
        DUE.is("classes() by 1 0 -1", x.classes(), 3);
        DUE.begin("classes: one vector, whatever is active");
        DUE.is("classes() of 0 0 0", Calls.allOff(new GraverCalculator()).classes(), 1);
        DUE.is("classes() without elements", Calls.point(Calls.load("10;01"), 3, 5).classes(), 1);
    }

    private static void classesOfASmallerFiber() {
        DUE.begin("classes: of what a greater fiber left behind nothing is counted");
        GraverCalculator x = Calls.allOff(Calls.point(new GraverCalculator(), 2, 0, 0));
        DUE.is("distance(0)", x.distance(0), NONE);
        x.setPoint(0, 1);
        DUE.is("classes() of 1 0 0", x.classes(), 3);
        DUE.is("distance(0)", x.distance(0), NONE);
        x.setPoint(0, 0);
        DUE.is("classes() of 0 0 0", x.classes(), 1);
    }

    // "if the result has no negative entry"

    private static void stepsToZeroAndBelow() {
        DUE.begin("a step to an entry 0 is a step");
        GraverCalculator x = Calls.point(Calls.load("12"), 2, 0);
        DUE.is("classes() of 2 0", x.classes(), 1);
        DUE.is("distances", Calls.distances(x), "1 0");
        DUE.begin("a step to an entry -1 is none, even if a later one would mend it");
        // Of 3 0 0 by 123: by 1 1 -1 and 1 -2 1 alone, 0 0 1 could be met only through 2 -1 1.
        x = Calls.off(Calls.point(Calls.load("123"), 3, 0, 0), 0, 2, 4);
        DUE.is("fiber", Calls.fiber(x), "0 0 1, 1 1 0, 3 0 0");
        DUE.is("classes()", x.classes(), 2);
        DUE.is("distances", Calls.distances(x), "- - 0");
        DUE.begin("a step may go in both directions of its element");
        x = Calls.off(Calls.point(new GraverCalculator(), 0, 0, 1), 1, 2);
        DUE.is("distances from 0 0 1", Calls.distances(x), "0 - 1");
        Calls.point(x, 1, 0, 0);
        DUE.is("distances from 1 0 0", Calls.distances(x), "1 - 0");
    }

    private static void classesNotPositive() {
        for (String text : NOT_POSITIVE) {
            DUE.begin("classes and distance: not positive: " + text);
            GraverCalculator x = Calls.load(text);
            DUE.is("classes()", x.classes(), ILLEGAL);
            DUE.is("distance(0)", x.distance(0), ILLEGAL);
        }
    }

    // Promise 24: "the smallest number of steps from the current point to this vector"; "NONE if the
    // fiber has no such vector, or if it is not connected with the point by steps"

    private static void distanceToItself() {
        DUE.begin("distance: of the point itself, with all active and with none");
        GraverCalculator x = Calls.point(Calls.load("11"), 3, 2);
        DUE.is("distance(3)", x.distance(3), 0);
        DUE.is("distances", Calls.distances(x), "3 2 1 0 1 2");
        Calls.allOff(x);
        DUE.is("distances", Calls.distances(x), "- - - 0 - -");
        DUE.begin("distance: the point is the first vector of its fiber, or the last");
        x = Calls.point(Calls.load("11"), 0, 5);
        DUE.is("distances from 0 5", Calls.distances(x), "0 1 2 3 4 5");
        x = Calls.point(Calls.load("11"), 5, 0);
        DUE.is("distances from 5 0", Calls.distances(x), "5 4 3 2 1 0");
    }

    private static void distanceNumber() {
        DUE.begin("distance: the last vector and the one behind it");
        GraverCalculator x = Calls.point(new GraverCalculator(), 2, 0, 0);
        DUE.is("distance(5)", x.distance(5), 0);
        DUE.is("distance(6)", x.distance(6), NONE);
        for (int far : FAR) {
            DUE.begin("distance: number " + far);
            DUE.is("distance(" + far + ")", x.distance(far), far < 0 ? INVALID : NONE);
        }
    }

    private static void distanceNotConnected() {
        DUE.begin("distance: in the fiber, but not connected");
        GraverCalculator x = Calls.off(Calls.point(new GraverCalculator(), 0, 1, 0), 1, 2);
        DUE.is("fiber", Calls.fiber(x), "0 0 1, 0 1 0, 1 0 0");
        DUE.is("distances", Calls.distances(x), "- 0 -");
        DUE.begin("distance: connected again by undo()");
        x.undo();
        x.undo();
        DUE.is("distances", Calls.distances(x), "1 0 1");
    }

    private static void distanceErrorsInOrder() {
        DUE.begin("distance: a negative number stands before not positive");
        GraverCalculator x = Calls.load("110");
        DUE.is("distance(-1)", x.distance(-1), INVALID);
        DUE.is("distance(least)", x.distance(Integer.MIN_VALUE), INVALID);
        DUE.begin("distance: not positive stands before no such vector");
        DUE.is("distance(9999)", x.distance(9999), ILLEGAL);
        DUE.is("distance(greatest)", x.distance(Integer.MAX_VALUE), ILLEGAL);
    }

    private static void distanceLongest() {
        DUE.begin("distance: the smallest number of steps, where a longer way is there too");
        GraverCalculator x = Calls.point(new GraverCalculator(), 1, 0, 0);
        DUE.is("all active", Calls.distances(x), "1 1 0");
        x.activate(0, 0);
        DUE.is("without 1 0 -1", Calls.distances(x), "2 1 0");
        DUE.begin("distance: a single element, the fiber is a line");
        x = Calls.point(Calls.load("111;321"), 5, 5, 5);
        DUE.is("distances", Calls.distances(x), "5 4 3 2 1 0 1 2");
        DUE.begin("distance: 30 steps, by neighbours alone");
        x = Calls.point(Calls.load("1111"), 5, 5, 5, 5);
        DUE.is("distance(0), all active", x.distance(0), 15);
        Calls.off(x, 0, 1, 3);
        DUE.is("distance(0)", x.distance(0), 5 * 3 + 5 * 2 + 5);
    }

    // Promise 25: "if for each point, any two vectors of its fiber are connected by steps"

    private static void markovWithoutElements() {
        DUE.begin("isMarkov: no elements, each fiber is one vector");
        DUE.is("isMarkov() of 10;01", Calls.load("10;01").isMarkov(), 1);
        DUE.is("isMarkov() of 11;12", Calls.load("11;12").isMarkov(), 1);
    }

    private static void markovNoneActive() {
        DUE.begin("isMarkov: all active");
        for (String text : new String[] {"11", "111", "2233", "1111;0123", "133;320"}) {
            DUE.is("isMarkov() of " + text, Calls.load(text).isMarkov(), 1);
        }
        DUE.begin("isMarkov: none active");
        for (String text : new String[] {"11", "111", "2233", "1111;0123", "133;320"}) {
            DUE.is("isMarkov() of " + text, Calls.allOff(Calls.load(text)).isMarkov(), 0);
        }
    }

    private static void markovJustEnough() {
        DUE.begin("isMarkov: just enough, and one fewer");
        GraverCalculator x = Calls.off(Calls.load("123"), 2, 3, 4);
        DUE.is("2 -1 0 and 1 1 -1", x.isMarkov(), 1);
        x.activate(1, 0);
        DUE.is("2 -1 0 alone", x.isMarkov(), 0);
        x.activate(1, 1);
        x.activate(0, 0);
        DUE.is("1 1 -1 alone", x.isMarkov(), 0);
        DUE.begin("isMarkov: enough in number, but not the right ones");
        x = Calls.off(Calls.load("123"), 0);
        DUE.is("all but 2 -1 0", x.isMarkov(), 0);
        DUE.begin("isMarkov: asks for each point, not for the current one");
        DUE.is("classes() of 0 0 0", x.classes(), 1);
        DUE.is("isMarkov()", x.isMarkov(), 0);
        DUE.begin("isMarkov: a basis of the lattice is not enough");
        x = Calls.off(Calls.load("1111;0123"), 0, 3, 4);
        DUE.is("1 -2 1 0 and 0 1 -2 1", x.isMarkov(), 0);
    }

    private static void markovNotPositive() {
        for (String text : NOT_POSITIVE) {
            DUE.begin("isMarkov: not positive: " + text);
            GraverCalculator x = Calls.load(text);
            DUE.is("isMarkov(), all active", x.isMarkov(), ILLEGAL);
            DUE.is("isMarkov(), none active", Calls.allOff(x).isMarkov(), ILLEGAL);
        }
    }

    // Promise 26: "in descending order of the numbers of the active elements, each one is made
    // inactive if the remaining ones are still a Markov basis"

    private static void reduceWithoutElements() {
        DUE.begin("reduce: no elements");
        GraverCalculator x = Calls.load("10;01");
        DUE.is("reduce()", x.reduce(), 0);
        DUE.is("it is saved", x.undo(), 1);
    }

    private static void reduceOneElement() {
        DUE.begin("reduce: a single element stays");
        GraverCalculator x = Calls.load("23");
        DUE.is("reduce()", x.reduce(), 1);
        DUE.is("active", Calls.active(x), "1");
    }

    private static void reduceInDescendingOrder() {
        DUE.begin("reduce: the last element goes first");
        GraverCalculator x = new GraverCalculator();
        DUE.is("reduce()", x.reduce(), 2);
        DUE.is("active", Calls.active(x), "110");
        DUE.begin("reduce: more than one goes");
        x = Calls.load("123");
        DUE.is("reduce()", x.reduce(), 2);
        DUE.is("active", Calls.active(x), "11000");
        DUE.begin("reduce: none can go");
        x = Calls.load("1100;0011");
        DUE.is("reduce()", x.reduce(), 2);
        DUE.is("active", Calls.active(x), "11");
    }

    private static void reduceFirstElement() {
        DUE.begin("reduce: element 0 goes too, by 1 -1 0 2 and 0 0 1 -3");
        GraverCalculator x = Calls.load("0231;1100");
        DUE.is("basis", Calls.basis(x), "1 -1 1 -1, 1 -1 0 2, 0 0 1 -3, 2 -2 1 1, 3 -3 2 0");
        DUE.is("reduce()", x.reduce(), 2);
        DUE.is("active", Calls.active(x), "01100");
    }

    private static void reduceTwice() {
        DUE.begin("reduce: what is reduced already is reduced again, and saved");
        GraverCalculator x = new GraverCalculator();
        DUE.is("reduce()", x.reduce(), 2);
        DUE.is("reduce()", x.reduce(), 2);
        DUE.is("active", Calls.active(x), "110");
        DUE.is("undo()", x.undo(), 1);
        DUE.is("active", Calls.active(x), "110");
        DUE.is("undo()", x.undo(), 0);
        DUE.is("active", Calls.active(x), "111");
    }

    private static void reduceLeavesTheInactive() {
        DUE.begin("reduce: inactive elements stay inactive");
        GraverCalculator x = Calls.off(new GraverCalculator(), 0);
        DUE.is("reduce()", x.reduce(), 2);
        DUE.is("active", Calls.active(x), "011");
    }

    // "ILLEGAL_STATE if the matrix is not positive, or if the active elements are not a Markov basis"

    private static void reduceRefused() {
        for (String text : NOT_POSITIVE) {
            DUE.begin("reduce: not positive: " + text);
            GraverCalculator x = Calls.load(text);
            String active = Calls.active(x);
            DUE.is("reduce()", x.reduce(), ILLEGAL);
            DUE.is("active", Calls.active(x), active);
            DUE.is("nothing is saved", x.undo(), 0);
        }
        DUE.begin("reduce: not a Markov basis");
        GraverCalculator x = Calls.off(Calls.load("123"), 0);
        DUE.is("reduce()", x.reduce(), ILLEGAL);
        DUE.is("active", Calls.active(x), "01111");
        DUE.is("nothing is saved", x.undo(), 1);
        DUE.begin("reduce: none active");
        DUE.is("reduce()", Calls.allOff(Calls.load("11")).reduce(), ILLEGAL);
        DUE.begin("reduce: not positive, and none active");
        DUE.is("reduce()", Calls.allOff(Calls.load("110")).reduce(), ILLEGAL);
    }
}
