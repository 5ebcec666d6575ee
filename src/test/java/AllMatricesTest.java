import java.util.List;

/**
 * Every matrix of every size: its Graver basis, rank, circuits, indispensable elements, and the
 * greatest counts, for which the class has made its rooms.
 */
final class AllMatricesTest {
    private static final Due DUE = new Due("AllMatricesTest");
    private static int mostElements;
    private static int mostInElementFiber;
    private static int mostInFiber;

    public static void main(String[] args) {
        for (int rows = 1; rows <= 2; rows++) {
            for (int columns = 2; columns <= 4; columns++) {
                for (int code = 0; code < 1 << (2 * rows * columns); code++) {
                    lookAt(rows, columns, code);
                }
            }
        }
        DUE.is("the greatest count of elements", mostElements, 14);
        DUE.is("the greatest fiber of an element's part", mostInElementFiber, 23);
        DUE.is("the greatest fiber of a point", mostInFiber, 1991);
        DUE.end();
    }

    private static void lookAt(int rows, int columns, int code) {
        GraverCalculator x = new GraverCalculator();
        Reference due = new Reference();
        x.configure(rows, columns);
        due.configure(rows, columns);
        StringBuilder name = new StringBuilder();
        for (int i = 0; i < rows * columns; i++) {
            int digit = (code >> (2 * i)) & 3;
            name.append(digit);
            if (digit != 1) {
                x.setEntry(i / columns, i % columns, digit);
                due.setEntry(i / columns, i % columns, digit);
            }
        }
        String matrix = rows + "x" + columns + " " + name + ": ";
        compareBases(matrix, x, due, columns);
        compareReducing(matrix, x, due);
        if (due.isPositive() == 1) {
            compareElementFibers(due, columns);
            compareGreatestFibers(matrix, x, due, columns);
        }
    }

    private static void compareBases(String name, GraverCalculator x, Reference due, int columns) {
        int count = due.graverCount();
        mostElements = Math.max(mostElements, count);
        DUE.is(name + "graverCount()", x.graverCount(), count);
        DUE.is(name + "rank()", x.rank(), due.rank());
        DUE.is(name + "isPositive()", x.isPositive(), due.isPositive());
        DUE.is(name + "isMarkov()", x.isMarkov(), due.isPositive() == 1 ? 1 : Reference.ILLEGAL);
        for (int element = 0; element < count; element++) {
            for (int index = 0; index < columns; index++) {
                DUE.is(name + "graverEntry", x.graverEntry(element, index), due.graverEntry(element, index));
            }
            DUE.is(name + "isCircuit", x.isCircuit(element), due.isCircuit(element));
            DUE.is(name + "isIndispensable", x.isIndispensable(element), due.isIndispensable(element));
            DUE.is(name + "isActive", x.isActive(element), 1);
        }
    }

    private static void compareReducing(String name, GraverCalculator x, Reference due) {
        DUE.is(name + "reduce()", x.reduce(), due.reduce());
        for (int element = 0; element < due.graverCount(); element++) {
            DUE.is(name + "isActive after reduce()", x.isActive(element), due.isActive(element));
        }
    }

    private static void compareElementFibers(Reference due, int columns) {
        for (int element = 0; element < due.graverCount(); element++) {
            int[] part = new int[columns];
            for (int i = 0; i < columns; i++) {
                part[i] = Math.max(due.graverEntry(element, i), 0);
            }
            mostInElementFiber = Math.max(mostInElementFiber, due.fiber(part).size());
        }
    }

    /** A fiber only grows when the point grows: y + e is in the fiber of x + e. */
    private static void compareGreatestFibers(String name, GraverCalculator x, Reference due, int columns) {
        int[] point = new int[columns];
        for (int i = 0; i < columns; i++) {
            point[i] = 5;
            x.setPoint(i, 5);
            due.setPoint(i, 5);
        }
        List<int[]> fiber = due.fiber(point);
        mostInFiber = Math.max(mostInFiber, fiber.size());
        DUE.is(name + "fiberSize()", x.fiberSize(), fiber.size());
        for (int number = 0; number < fiber.size(); number += 1 + fiber.size() / 20) {
            for (int i = 0; i < columns; i++) {
                DUE.is(name + "fiberEntry", x.fiberEntry(number, i), fiber.get(number)[i]);
            }
        }
    }
}
