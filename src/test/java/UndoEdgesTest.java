import java.util.ArrayList;
import java.util.List;
import java.util.function.Supplier;
import java.util.function.ToIntFunction;

/**
 * The edges of promise 27 and of "Errors", each with a test of its own: what is saved and what is
 * not, eight states and a ninth, refused calls, and the 512 calls of an object.
 */
final class UndoEdgesTest {
    private static final Due DUE = new Due("UndoEdgesTest");
    private static final int INVALID = Calls.INVALID;
    private static final int ILLEGAL = Calls.ILLEGAL;
    private static final int FULL = Calls.FULL;
    private static final int NONE = Calls.NONE;
    private static final int STATES = 8;
    private static final int CALLS = 512;

    /** A call with a name and the answer that is due in a state where it is refused. */
    private record Refused(String name, int due, ToIntFunction<GraverCalculator> call) {
    }

    public static void main(String[] args) {
        nothingSaved();
        oneSaved();
        eightSaved();
        ninthSaved();
        ringWrapsAround();
        eachSavingCall();
        callsThatSaveNothing();
        undoSavesNothing();
        undoOverOtherColumns();
        undoBringsBackActivity();
        undoLeavesTheText();
        constants();
        refusedInAnyState();
        refusedForArguments();
        refusedForTheState();
        refusedFullText();
        refusedWhenHistoryIsFull();
        calls512();
        DUE.end();
    }

    // "ILLEGAL_STATE if none was saved"

    private static void nothingSaved() {
        DUE.begin("undo: nothing saved");
        GraverCalculator x = new GraverCalculator();
        DUE.is("undo()", x.undo(), ILLEGAL);
        DUE.is("undo() again", x.undo(), ILLEGAL);
        DUE.is("matrix", Calls.matrix(x), "111");
        DUE.begin("undo: a refused undo() leaves room for eight");
        for (int value = 1; value <= STATES; value++) {
            x.setVector(0, value);
        }
        for (int left = STATES - 1; left >= 0; left--) {
            DUE.is("undo()", x.undo(), left);
        }
        DUE.is("undo()", x.undo(), ILLEGAL);
    }

    private static void oneSaved() {
        DUE.begin("undo: one saved");
        GraverCalculator x = new GraverCalculator();
        x.setVector(0, 7);
        DUE.is("undo()", x.undo(), 0);
        DUE.is("undo()", x.undo(), ILLEGAL);
        DUE.is("vector", Calls.takeVector(x), "0 0 0");
    }

    // "At most 8 states are saved; when a ninth is saved, the oldest one is discarded."

    private static void eightSaved() {
        DUE.begin("undo: eight saved, the first state comes back");
        GraverCalculator x = new GraverCalculator();
        for (int value = 1; value <= STATES; value++) {
            x.setVector(0, value);
        }
        for (int left = STATES - 1; left >= 0; left--) {
            DUE.is("undo()", x.undo(), left);
        }
        DUE.is("undo()", x.undo(), ILLEGAL);
        DUE.is("vector", Calls.takeVector(x), "0 0 0");
    }

    private static void ninthSaved() {
        DUE.begin("undo: nine saved, the first state is gone");
        GraverCalculator x = new GraverCalculator();
        for (int value = 1; value <= STATES + 1; value++) {
            x.setVector(0, value);
        }
        for (int left = STATES - 1; left >= 0; left--) {
            DUE.is("undo()", x.undo(), left);
        }
        DUE.is("undo()", x.undo(), ILLEGAL);
        DUE.is("vector", Calls.takeVector(x), "1 0 0");
        DUE.begin("undo: each of the eight behind a ninth");
        for (int undone = 1; undone <= STATES; undone++) {
            GraverCalculator y = new GraverCalculator();
            for (int value = 1; value <= STATES + 1; value++) {
                y.setVector(0, value);
            }
            for (int i = 0; i < undone; i++) {
                y.undo();
            }
            DUE.is("setVector(0, 0) behind " + undone + " undo()", y.setVector(0, 0), STATES + 1 - undone);
        }
    }

    private static void ringWrapsAround() {
        for (int saved = 7; saved <= 25; saved++) {
            DUE.begin("undo: " + saved + " saved, then two back, then three more");
            GraverCalculator x = new GraverCalculator();
            for (int value = 1; value <= saved; value++) {
                x.setVector(0, value);
            }
            int kept = Math.min(saved, STATES);
            DUE.is("undo()", x.undo(), kept - 1);
            DUE.is("undo()", x.undo(), kept - 2);
            for (int value = 26; value <= 28; value++) {
                x.setVector(0, value);
            }
            kept = Math.min(kept + 1, STATES);
            for (int left = kept - 1; left >= 0; left--) {
                DUE.is("undo()", x.undo(), left);
            }
            DUE.is("undo()", x.undo(), ILLEGAL);
            // The values were 0 .. saved - 2, then 26 .. 28: the state before the last kept calls.
            DUE.is("setVector(0, 0)", x.setVector(0, 0), saved + 1 - kept);
        }
    }

    // "Every successful call of configure(), setEntry(), loadText(), setVector(), setPoint(),
    // activate() and reduce() saves the state that preceded it"

    private static void eachSavingCall() {
        saves("configure(1, 3)", x -> x.configure(1, 3), 3);
        saves("configure(2, 4)", x -> x.configure(2, 4), 3);
        saves("setEntry(0, 1, 0)", x -> x.setEntry(0, 1, 0), 2);
        saves("loadText() of the same", x -> Calls.write(x, "23").loadText(), 1);
        saves("loadText() of two rows", x -> Calls.write(x, "23;321").loadText(), 2);
        saves("loadText() of two columns", x -> Calls.write(x, "2").loadText(), 1);
        saves("setVector(0, 30)", x -> x.setVector(0, 30), 1);
        saves("setVector(0, 1), the same", x -> x.setVector(0, 1), 1);
        saves("setPoint(2, 5)", x -> x.setPoint(2, 5), 1);
        saves("setPoint(2, 1), the same", x -> x.setPoint(2, 1), 1);
        saves("activate(3, 0)", x -> x.activate(3, 0), 3);
        saves("activate(2, 1)", x -> x.activate(2, 1), 5);
        saves("reduce()", GraverCalculator::reduce, 2);
    }

    /** The matrix 123 with a vector, a point, an inactive element and a text begun: 1. */
    private static GraverCalculator begun() {
        GraverCalculator x = Calls.load("123");
        Calls.vector(x, 1, 1, -1);
        x.setPoint(2, 1);
        x.activate(2, 0);
        return Calls.write(x, "1");
    }

    private static void saves(String name, ToIntFunction<GraverCalculator> call, int due) {
        DUE.begin("undo: " + name + " saves");
        GraverCalculator x = begun();
        DUE.is(name, call.applyAsInt(x), due);
        DUE.is("undo()", x.undo(), 6);
        DUE.is("matrix", Calls.matrix(x), "123");
        DUE.is("active", Calls.active(x), "11011");
        DUE.is("decomposition", Calls.decomposition(x), "2");
        DUE.is("fiber", Calls.fiber(x), "0 0 1, 1 1 0, 3 0 0");
        DUE.is("vector", Calls.takeVector(x), "1 1 -1");
        DUE.is("point", Calls.takePoint(x), "0 0 1");
    }

    // Only those seven save: no other call of the face does, and no refused one.

    private static void callsThatSaveNothing() {
        List<Refused> calls = new ArrayList<>();
        calls.add(new Refused("append(49)", 2, x -> x.append('1')));
        calls.add(new Refused("clearText()", 1, GraverCalculator::clearText));
        calls.add(new Refused("entry(0, 0)", 1, x -> x.entry(0, 0)));
        calls.add(new Refused("rank()", 1, GraverCalculator::rank));
        calls.add(new Refused("isPositive()", 1, GraverCalculator::isPositive));
        calls.add(new Refused("graverCount()", 5, GraverCalculator::graverCount));
        calls.add(new Refused("graverEntry(0, 0)", 2, x -> x.graverEntry(0, 0)));
        calls.add(new Refused("isCircuit(1)", 0, x -> x.isCircuit(1)));
        calls.add(new Refused("isIndispensable(0)", 1, x -> x.isIndispensable(0)));
        calls.add(new Refused("isInKernel()", 1, GraverCalculator::isInKernel));
        calls.add(new Refused("decompositionLength()", 1, GraverCalculator::decompositionLength));
        calls.add(new Refused("decompositionStep(0)", 2, x -> x.decompositionStep(0)));
        calls.add(new Refused("fiberSize()", 3, GraverCalculator::fiberSize));
        calls.add(new Refused("fiberEntry(2, 0)", 3, x -> x.fiberEntry(2, 0)));
        calls.add(new Refused("isActive(2)", 0, x -> x.isActive(2)));
        calls.add(new Refused("classes()", 1, GraverCalculator::classes));
        calls.add(new Refused("distance(2)", 2, x -> x.distance(2)));
        calls.add(new Refused("isMarkov()", 1, GraverCalculator::isMarkov));
        for (Refused asking : calls) {
            DUE.begin("undo: " + asking.name + " saves nothing");
            GraverCalculator x = begun();
            DUE.is(asking.name, asking.call.applyAsInt(x), asking.due);
            DUE.is("undo()", x.undo(), 5);
            DUE.is("active", Calls.active(x), "11111");
            if (!asking.name.equals("append(49)") && !asking.name.equals("clearText()")) {
                changesNothing(UndoEdgesTest::begun, asking);
            }
        }
    }

    // "undo() restores the most recently saved state and discards it"

    private static void undoSavesNothing() {
        DUE.begin("undo: is not undone by undo()");
        GraverCalculator x = new GraverCalculator();
        x.setVector(0, 1);
        x.setVector(0, 2);
        DUE.is("undo()", x.undo(), 1);
        DUE.is("undo()", x.undo(), 0);
        DUE.is("vector", Calls.takeVector(x), "0 0 0");
        DUE.begin("undo: a call behind an undo() saves the state that came back");
        x = new GraverCalculator();
        x.setVector(0, 1);
        x.setVector(0, 2);
        x.undo();
        x.setVector(0, 3);
        DUE.is("undo()", x.undo(), 1);
        DUE.is("setVector(0, 1)", x.setVector(0, 1), 1);
    }

    private static void undoOverOtherColumns() {
        DUE.begin("undo: over fewer and more columns");
        GraverCalculator x = Calls.point(Calls.vector(Calls.load("1111;0123"), 1, -2, 1, 0), 2, 0, 0, 2);
        Calls.write(x, "12").loadText();
        x.setVector(0, 2);
        x.setVector(1, -1);
        x.configure(1, 3);
        DUE.is("columns", Calls.columns(x), 3);
        DUE.is("undo()", x.undo(), 7);
        DUE.is("matrix", Calls.matrix(x), "12");
        DUE.is("decomposition", Calls.decomposition(x), "1");
        DUE.is("entry(0, 2)", x.entry(0, 2), INVALID);
        DUE.is("graverEntry(0, 2)", x.graverEntry(0, 2), INVALID);
        x.undo();
        x.undo();
        DUE.is("undo()", x.undo(), 4);
        DUE.is("matrix", Calls.matrix(x), "1111;0123");
        DUE.is("basis", Calls.basis(x), "1 -1 -1 1, 1 -2 1 0, 0 1 -2 1, 2 -3 0 1, 1 0 -3 2");
        DUE.is("decomposition", Calls.decomposition(x), "2");
        DUE.is("fiberSize()", x.fiberSize(), 5);
        DUE.is("distances", Calls.distances(x), "2 1 1 1 0");
    }

    private static void undoBringsBackActivity() {
        DUE.begin("undo: which elements are active, over a smaller basis");
        GraverCalculator x = Calls.off(Calls.load("2233"), 0, 13, 6);
        x.configure(1, 2);
        DUE.is("active", Calls.active(x), "1");
        x.activate(0, 0);
        x.undo();
        x.undo();
        DUE.is("active", Calls.active(x), "01111101111110");
        DUE.begin("undo: the steps of the elements that are active again");
        x = Calls.point(new GraverCalculator(), 2, 0, 0);
        x.activate(0, 0);
        DUE.is("distance(0)", x.distance(0), 4);
        x.undo();
        DUE.is("distance(0)", x.distance(0), 2);
        DUE.begin("undo: a refused reduce() becomes possible again");
        Calls.off(x, 0, 1);
        DUE.is("reduce()", x.reduce(), ILLEGAL);
        x.undo();
        DUE.is("reduce()", x.reduce(), 2);
    }

    // "The state consists of the matrix, the current vector, the current point, and which elements
    // are active": the text is no part of it

    private static void undoLeavesTheText() {
        DUE.begin("undo: the text stays");
        GraverCalculator x = Calls.write(new GraverCalculator(), "12");
        x.setVector(0, 1);
        Calls.write(x, ";3");
        x.undo();
        DUE.is("append(48)", x.append('0'), 5);
        DUE.is("loadText()", x.loadText(), 2);
        DUE.is("matrix", Calls.matrix(x), "12;30");
        DUE.begin("undo: a cleared text does not come back");
        x = new GraverCalculator();
        x.setVector(0, 1);
        Calls.write(x, "12").clearText();
        x.undo();
        DUE.is("loadText()", x.loadText(), -10);
        DUE.begin("undo: refused, the text stays too");
        x = Calls.write(new GraverCalculator(), "12");
        DUE.is("undo()", x.undo(), ILLEGAL);
        DUE.is("loadText()", x.loadText(), 1);
    }

    private static void constants() {
        DUE.begin("the constants");
        DUE.is("INVALID_ARGUMENT", GraverCalculator.INVALID_ARGUMENT, -1001);
        DUE.is("ILLEGAL_STATE", GraverCalculator.ILLEGAL_STATE, -1002);
        DUE.is("CAPACITY_EXCEEDED", GraverCalculator.CAPACITY_EXCEEDED, -1003);
        DUE.is("NONE", GraverCalculator.NONE, -1009);
    }

    // "A call that returns an error code changes nothing."

    /** All that calls can tell behind some undo(): the last ones tell by changing. */
    private static String tell(GraverCalculator x, int undone) {
        StringBuilder text = new StringBuilder();
        for (int i = 0; i < undone; i++) {
            text.append(x.undo()).append(' ');
        }
        text.append(Calls.matrix(x)).append(' ').append(x.rank()).append(x.isPositive());
        text.append(" basis ").append(Calls.basis(x)).append(" active ").append(Calls.active(x));
        text.append(" decomposition ").append(Calls.decomposition(x)).append(" fiber ").append(Calls.fiber(x));
        text.append(" distances ").append(Calls.distances(x)).append(" Markov ").append(x.isMarkov());
        text.append(" vector ").append(Calls.takeVector(x)).append(" point ").append(Calls.takePoint(x));
        text.append(" load ").append(x.loadText()).append(' ').append(Calls.matrix(x));
        text.append(" text ").append(x.clearText());
        return text.toString();
    }

    private static void changesNothing(Supplier<GraverCalculator> state, Refused refused) {
        for (int undone = 0; undone <= STATES + 1; undone++) {
            GraverCalculator x = state.get();
            DUE.is(refused.name, refused.call.applyAsInt(x), refused.due);
            DUE.is("the state behind " + refused.name + " and " + undone + " undo()", tell(x, undone), tell(state.get(), undone));
        }
    }

    private static void refuse(String when, Supplier<GraverCalculator> state, List<Refused> calls) {
        for (Refused refused : calls) {
            DUE.begin("refused, " + when + ": " + refused.name);
            changesNothing(state, refused);
        }
    }

    /** Refused whatever the state is, for n columns of which 4 is the most. */
    private static List<Refused> alwaysRefused() {
        List<Refused> calls = new ArrayList<>();
        calls.add(new Refused("configure(0, 2)", INVALID, x -> x.configure(0, 2)));
        calls.add(new Refused("configure(3, 4)", INVALID, x -> x.configure(3, 4)));
        calls.add(new Refused("configure(1, 1)", INVALID, x -> x.configure(1, 1)));
        calls.add(new Refused("configure(2, 5)", INVALID, x -> x.configure(2, 5)));
        calls.add(new Refused("setEntry(-1, 0, 2)", INVALID, x -> x.setEntry(-1, 0, 2)));
        calls.add(new Refused("setEntry(2, 0, 2)", INVALID, x -> x.setEntry(2, 0, 2)));
        calls.add(new Refused("setEntry(0, -1, 2)", INVALID, x -> x.setEntry(0, -1, 2)));
        calls.add(new Refused("setEntry(0, 4, 2)", INVALID, x -> x.setEntry(0, 4, 2)));
        calls.add(new Refused("setEntry(0, 0, -1)", INVALID, x -> x.setEntry(0, 0, -1)));
        calls.add(new Refused("setEntry(0, 0, 4)", INVALID, x -> x.setEntry(0, 0, 4)));
        calls.add(new Refused("setEntry(0, 0, the same)", ILLEGAL, x -> x.setEntry(0, 0, x.entry(0, 0))));
        calls.add(new Refused("append(-1)", INVALID, x -> x.append(-1)));
        calls.add(new Refused("append(256)", INVALID, x -> x.append(256)));
        calls.add(new Refused("entry(2, 0)", INVALID, x -> x.entry(2, 0)));
        calls.add(new Refused("entry(0, 4)", INVALID, x -> x.entry(0, 4)));
        calls.add(new Refused("graverEntry(-1, 0)", INVALID, x -> x.graverEntry(-1, 0)));
        calls.add(new Refused("graverEntry(0, 4)", INVALID, x -> x.graverEntry(0, 4)));
        calls.add(new Refused("isCircuit(-1)", INVALID, x -> x.isCircuit(-1)));
        calls.add(new Refused("isIndispensable(14)", INVALID, x -> x.isIndispensable(14)));
        calls.add(new Refused("setVector(-1, 0)", INVALID, x -> x.setVector(-1, 0)));
        calls.add(new Refused("setVector(4, 0)", INVALID, x -> x.setVector(4, 0)));
        calls.add(new Refused("setVector(0, 31)", INVALID, x -> x.setVector(0, 31)));
        calls.add(new Refused("setVector(0, -31)", INVALID, x -> x.setVector(0, -31)));
        calls.add(new Refused("decompositionStep(-1)", INVALID, x -> x.decompositionStep(-1)));
        calls.add(new Refused("setPoint(-1, 0)", INVALID, x -> x.setPoint(-1, 0)));
        calls.add(new Refused("setPoint(4, 0)", INVALID, x -> x.setPoint(4, 0)));
        calls.add(new Refused("setPoint(0, 6)", INVALID, x -> x.setPoint(0, 6)));
        calls.add(new Refused("setPoint(0, -1)", INVALID, x -> x.setPoint(0, -1)));
        calls.add(new Refused("fiberEntry(-1, 0)", INVALID, x -> x.fiberEntry(-1, 0)));
        calls.add(new Refused("fiberEntry(0, 4)", INVALID, x -> x.fiberEntry(0, 4)));
        calls.add(new Refused("activate(-1, 0)", INVALID, x -> x.activate(-1, 0)));
        calls.add(new Refused("activate(14, 0)", INVALID, x -> x.activate(14, 0)));
        calls.add(new Refused("activate(0, 2)", INVALID, x -> x.activate(0, 2)));
        calls.add(new Refused("activate(0, -1)", INVALID, x -> x.activate(0, -1)));
        calls.add(new Refused("isActive(14)", INVALID, x -> x.isActive(14)));
        calls.add(new Refused("distance(-1)", INVALID, x -> x.distance(-1)));
        return calls;
    }

    private static void refusedInAnyState() {
        List<Refused> calls = alwaysRefused();
        refuse("a new object", GraverCalculator::new, calls);
        refuse("123 with vector, point, activity and text", UndoEdgesTest::begun, calls);
        refuse("no elements", () -> Calls.point(Calls.load("11;12"), 5, 4), calls);
        refuse("not positive", () -> Calls.point(Calls.vector(Calls.load("1010;1010"), 1, 2, -1, 3), 1, 2, 3, 4), calls);
    }

    private static void refusedForArguments() {
        List<Refused> calls = new ArrayList<>();
        calls.add(new Refused("setEntry(1, 0, 2)", INVALID, x -> x.setEntry(1, 0, 2)));
        calls.add(new Refused("setEntry(0, 3, 2)", INVALID, x -> x.setEntry(0, 3, 2)));
        calls.add(new Refused("setEntry(0, 2, 3)", ILLEGAL, x -> x.setEntry(0, 2, 3)));
        calls.add(new Refused("entry(1, 0)", INVALID, x -> x.entry(1, 0)));
        calls.add(new Refused("entry(0, 3)", INVALID, x -> x.entry(0, 3)));
        calls.add(new Refused("graverEntry(5, 0)", INVALID, x -> x.graverEntry(5, 0)));
        calls.add(new Refused("graverEntry(0, 3)", INVALID, x -> x.graverEntry(0, 3)));
        calls.add(new Refused("isCircuit(5)", INVALID, x -> x.isCircuit(5)));
        calls.add(new Refused("isIndispensable(5)", INVALID, x -> x.isIndispensable(5)));
        calls.add(new Refused("setVector(3, 0)", INVALID, x -> x.setVector(3, 0)));
        calls.add(new Refused("setPoint(3, 0)", INVALID, x -> x.setPoint(3, 0)));
        calls.add(new Refused("fiberEntry(0, 3)", INVALID, x -> x.fiberEntry(0, 3)));
        calls.add(new Refused("fiberEntry(3, 0)", NONE, x -> x.fiberEntry(3, 0)));
        calls.add(new Refused("distance(3)", NONE, x -> x.distance(3)));
        calls.add(new Refused("decompositionStep(1)", NONE, x -> x.decompositionStep(1)));
        calls.add(new Refused("activate(5, 1)", INVALID, x -> x.activate(5, 1)));
        calls.add(new Refused("activate(2, 0)", ILLEGAL, x -> x.activate(2, 0)));
        calls.add(new Refused("activate(3, 1)", ILLEGAL, x -> x.activate(3, 1)));
        calls.add(new Refused("isActive(5)", INVALID, x -> x.isActive(5)));
        calls.add(new Refused("loadText() of 1", -11, GraverCalculator::loadText));
        refuse("beside the ends of 123", UndoEdgesTest::begun, calls);
    }

    private static void refusedForTheState() {
        List<Refused> calls = new ArrayList<>();
        calls.add(new Refused("isIndispensable(0)", ILLEGAL, x -> x.isIndispensable(0)));
        calls.add(new Refused("decompositionLength()", ILLEGAL, GraverCalculator::decompositionLength));
        calls.add(new Refused("decompositionStep(0)", ILLEGAL, x -> x.decompositionStep(0)));
        calls.add(new Refused("fiberSize()", ILLEGAL, GraverCalculator::fiberSize));
        calls.add(new Refused("fiberEntry(0, 0)", ILLEGAL, x -> x.fiberEntry(0, 0)));
        calls.add(new Refused("classes()", ILLEGAL, GraverCalculator::classes));
        calls.add(new Refused("distance(0)", ILLEGAL, x -> x.distance(0)));
        calls.add(new Refused("isMarkov()", ILLEGAL, GraverCalculator::isMarkov));
        calls.add(new Refused("reduce()", ILLEGAL, GraverCalculator::reduce));
        refuse("not positive, outside the kernel", () -> Calls.point(Calls.vector(Calls.off(Calls.load("110"), 1), 1, 0, 3), 2, 0, 1), calls);
        calls = new ArrayList<>();
        calls.add(new Refused("reduce()", ILLEGAL, GraverCalculator::reduce));
        refuse("not a Markov basis", () -> Calls.point(Calls.off(Calls.load("123"), 0, 3), 3, 0, 0), calls);
        calls = new ArrayList<>();
        calls.add(new Refused("undo()", ILLEGAL, GraverCalculator::undo));
        calls.add(new Refused("loadText() of nothing", -10, GraverCalculator::loadText));
        refuse("a new object", GraverCalculator::new, calls);
        calls = new ArrayList<>();
        calls.add(new Refused("loadText() of 33;3x", -14, GraverCalculator::loadText));
        refuse("an error in the second row", () -> Calls.write(Calls.off(Calls.load("12"), 0), "33;3x"), calls);
    }

    private static void refusedFullText() {
        List<Refused> calls = new ArrayList<>();
        calls.add(new Refused("append(51)", FULL, x -> x.append('3')));
        calls.add(new Refused("append(32)", FULL, x -> x.append(' ')));
        calls.add(new Refused("append(256)", INVALID, x -> x.append(256)));
        refuse("a full text that loads", () -> Calls.write(new GraverCalculator(), " ".repeat(38) + "12"), calls);
        calls.add(new Refused("loadText()", -50, GraverCalculator::loadText));
        refuse("a full text that does not load", () -> Calls.write(new GraverCalculator(), " ".repeat(36) + "12;3"), calls);
    }

    private static void refusedWhenHistoryIsFull() {
        // Nine saved, of which eight are left: one more would discard the oldest.
        refuse("eight states saved", () -> Calls.write(Calls.point(Calls.vector(Calls.off(Calls.load("1111"), 5), 4, -4, 3, -3), 1, 0, 1), "1"), alwaysRefused());
    }

    // "An object is used for at most 512 calls after it has been made"

    private static void calls512() {
        DUE.begin("512 calls that save, the last ones answer as the first ones");
        GraverCalculator x = new GraverCalculator();
        for (int call = 1; call <= CALLS; call++) {
            int previous = call == 1 ? 0 : (call - 1) % 31;
            if (x.setVector(0, call % 31) != previous) {
                DUE.is("call " + call, 0, 1);
            }
        }
        x = new GraverCalculator();
        for (int call = 1; call <= CALLS - STATES - 1; call++) {
            x.setVector(0, call % 31);
        }
        for (int left = STATES - 1; left >= 0; left--) {
            DUE.is("undo()", x.undo(), left);
        }
        DUE.is("call 512: undo()", x.undo(), ILLEGAL);

        DUE.begin("512 calls of the greatest matrix, each on and off");
        x = Calls.load("2233");
        for (int call = 6; call < CALLS; call += 2) {
            x.activate(13, 0);
            x.activate(13, 1);
        }
        DUE.is("call 512: graverCount()", x.graverCount(), 14);

        DUE.begin("512 calls of the greatest fiber");
        x = Calls.point(Calls.load("1113"), 5, 5, 5, 5);
        for (int call = 10; call < CALLS - 2; call += 2) {
            DUE.is("classes()", x.classes(), 1);
            DUE.is("distance(1990)", x.distance(1990), 12);
        }
        x.setPoint(0, 4);
        DUE.is("the fiber shrinks", x.fiberSize() < 1991 ? 1 : 0, 1);

        DUE.begin("512 calls of a text that is filled and cleared");
        x = new GraverCalculator();
        for (int round = 0; round < 12; round++) {
            for (int length = 1; length <= 40; length++) {
                DUE.is("append(32)", x.append(' '), length);
            }
            DUE.is("append(32)", x.append(' '), FULL);
            DUE.is("clearText()", x.clearText(), 40);
        }
    }
}
