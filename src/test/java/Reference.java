import java.util.ArrayDeque;
import java.util.ArrayList;
import java.util.Arrays;
import java.util.HashMap;
import java.util.HashSet;
import java.util.List;
import java.util.Map;
import java.util.Set;

/**
 * The document's words over again, slow and with the Java library: Graver bases by looking at
 * every vector of a box, Markov bases by walking through every element's fiber.
 */
final class Reference {
    static final int INVALID = -1001;
    static final int ILLEGAL = -1002;
    static final int FULL = -1003;
    static final int NONE = -1009;
    private static final Map<String, List<int[]>> GRAVER_OF_SORTED = new HashMap<>();

    private int[][] matrix = {{1, 1, 1}};
    private int[] vector = new int[3];
    private int[] point = new int[3];
    private Set<Integer> active = new HashSet<>(List.of(0, 1, 2));
    private final StringBuilder text = new StringBuilder();
    private final ArrayDeque<Reference> saved = new ArrayDeque<>();
    private List<int[]> elements = graver(matrix);

    // ---- the calls

    int configure(int rows, int columns) {
        if (rows < 1 || rows > 2 || columns < 2 || columns > 4) return INVALID;
        int previous = n();
        int[][] ones = new int[rows][columns];
        for (int[] row : ones) Arrays.fill(row, 1);
        save();
        replaceMatrix(ones);
        return previous;
    }

    int setEntry(int row, int column, int value) {
        if (entry(row, column) == INVALID || value < 0 || value > 3) return INVALID;
        int previous = matrix[row][column];
        if (previous == value) return ILLEGAL;
        save();
        int[][] changed = copy(matrix);
        changed[row][column] = value;
        replaceMatrix(changed);
        return previous;
    }

    int append(int character) {
        if (character < 0 || character > 255) return INVALID;
        if (text.length() == 40) return FULL;
        return text.append((char) character).length();
    }

    int clearText() {
        int previous = text.length();
        text.setLength(0);
        return previous;
    }

    int loadText() {
        List<List<Integer>> rows = new ArrayList<>(List.of(new ArrayList<>()));
        for (int i = 0; i < text.length(); i++) {
            char c = text.charAt(i);
            List<Integer> row = rows.get(rows.size() - 1);
            if (c == ' ') continue;
            if (c == ';' && rows.size() == 1 && row.size() >= 2) rows.add(new ArrayList<>());
            else if (c >= '0' && c <= '3' && row.size() < (rows.size() == 1 ? 4 : rows.get(0).size())) row.add(c - '0');
            else return -10 - i;
        }
        int last = rows.get(rows.size() - 1).size();
        if (last < (rows.size() == 1 ? 2 : rows.get(0).size())) return -10 - text.length();
        int[][] read = new int[rows.size()][];
        for (int r = 0; r < read.length; r++) read[r] = rows.get(r).stream().mapToInt(v -> v).toArray();
        save();
        replaceMatrix(read);
        text.setLength(0);
        return read.length;
    }

    int entry(int row, int column) {
        return row < 0 || row >= matrix.length || outside(column) ? INVALID : matrix[row][column];
    }

    int rank() {
        return rank(matrix);
    }

    int isPositive() {
        for (int c = 0; c < n(); c++) {
            int sum = 0;
            for (int[] row : matrix) sum += row[c];
            if (sum == 0) return 0;
        }
        return 1;
    }

    int graverCount() {
        return elements.size();
    }

    int graverEntry(int element, int index) {
        return noElement(element) || outside(index) ? INVALID : elements.get(element)[index];
    }

    int isCircuit(int element) {
        if (noElement(element)) return INVALID;
        Set<Integer> own = support(elements.get(element));
        for (int[] other : elements) {
            Set<Integer> theirs = support(other);
            if (own.containsAll(theirs) && !theirs.containsAll(own)) return 0;
        }
        return 1;
    }

    int isIndispensable(int element) {
        if (noElement(element)) return INVALID;
        if (isPositive() == 0) return ILLEGAL;
        return fiber(part(elements.get(element), 1)).size() == 2 ? 1 : 0;
    }

    int setVector(int index, int value) {
        if (outside(index) || value < -30 || value > 30) return INVALID;
        save();
        int previous = vector[index];
        vector = vector.clone();
        vector[index] = value;
        return previous;
    }

    int isInKernel() {
        return isZero(image(vector)) ? 1 : 0;
    }

    int decompositionLength() {
        return isInKernel() == 0 ? ILLEGAL : decomposition().size();
    }

    int decompositionStep(int step) {
        if (step < 0) return INVALID;
        if (isInKernel() == 0) return ILLEGAL;
        List<Integer> sequence = decomposition();
        return step < sequence.size() ? sequence.get(step) : NONE;
    }

    int setPoint(int index, int value) {
        if (outside(index) || value < 0 || value > 5) return INVALID;
        save();
        int previous = point[index];
        point = point.clone();
        point[index] = value;
        return previous;
    }

    int fiberSize() {
        return isPositive() == 0 ? ILLEGAL : fiber(point).size();
    }

    int fiberEntry(int number, int index) {
        if (number < 0 || outside(index)) return INVALID;
        if (isPositive() == 0) return ILLEGAL;
        List<int[]> fiber = fiber(point);
        return number < fiber.size() ? fiber.get(number)[index] : NONE;
    }

    int activate(int element, int on) {
        if (noElement(element) || on != 0 && on != 1) return INVALID;
        if (active.contains(element) == (on == 1)) return ILLEGAL;
        save();
        active = new HashSet<>(active);
        if (on == 1) active.add(element);
        else active.remove(element);
        return active.size();
    }

    int isActive(int element) {
        if (noElement(element)) return INVALID;
        return active.contains(element) ? 1 : 0;
    }

    int classes() {
        if (isPositive() == 0) return ILLEGAL;
        Set<List<Integer>> seen = new HashSet<>();
        int classes = 0;
        for (int[] y : fiber(point)) {
            if (!seen.contains(boxed(y))) {
                classes++;
                seen.addAll(reached(y, active).keySet());
            }
        }
        return classes;
    }

    int distance(int number) {
        if (number < 0) return INVALID;
        if (isPositive() == 0) return ILLEGAL;
        List<int[]> fiber = fiber(point);
        if (number >= fiber.size()) return NONE;
        return reached(point, active).getOrDefault(boxed(fiber.get(number)), NONE);
    }

    int isMarkov() {
        if (isPositive() == 0) return ILLEGAL;
        return isMarkov(active) ? 1 : 0;
    }

    int reduce() {
        if (isPositive() == 0 || !isMarkov(active)) return ILLEGAL;
        save();
        for (int element = elements.size() - 1; element >= 0; element--) {
            Set<Integer> rest = new HashSet<>(active);
            if (rest.remove(element) && isMarkov(rest)) active = rest;
        }
        return active.size();
    }

    int undo() {
        if (saved.isEmpty()) return ILLEGAL;
        Reference last = saved.removeLast();
        matrix = last.matrix;
        vector = last.vector;
        point = last.point;
        active = last.active;
        elements = last.elements;
        return saved.size();
    }

    // ---- what they are made of

    private int n() {
        return matrix[0].length;
    }

    private boolean outside(int column) {
        return column < 0 || column >= n();
    }

    private boolean noElement(int element) {
        return element < 0 || element >= elements.size();
    }

    private void save() {
        Reference state = new Reference(this);
        saved.addLast(state);
        if (saved.size() > 8) saved.removeFirst();
    }

    Reference() {
    }

    private Reference(Reference other) {
        matrix = other.matrix;
        vector = other.vector;
        point = other.point;
        active = other.active;
        elements = other.elements;
    }

    private void replaceMatrix(int[][] other) {
        if (other[0].length != n()) {
            vector = new int[other[0].length];
            point = new int[other[0].length];
        }
        matrix = other;
        elements = graver(other);
        active = new HashSet<>();
        for (int i = 0; i < elements.size(); i++) active.add(i);
    }

    private int[] image(int[] v) {
        return image(matrix, v);
    }

    private List<Integer> decomposition() {
        List<Integer> sequence = new ArrayList<>();
        int[] rest = vector.clone();
        while (!isZero(rest)) {
            int step = firstConformal(rest);
            sequence.add(step);
            int[] z = elements.get(Math.abs(step) - 1);
            for (int i = 0; i < n(); i++) rest[i] -= Integer.signum(step) * z[i];
        }
        return sequence;
    }

    private int firstConformal(int[] rest) {
        for (int element = 0; element < elements.size(); element++) {
            if (conformal(elements.get(element), 1, rest)) return element + 1;
            if (conformal(elements.get(element), -1, rest)) return -element - 1;
        }
        throw new IllegalStateException("no element is conformal to a kernel vector");
    }

    private boolean isMarkov(Set<Integer> moves) {
        for (int[] z : elements) {
            if (!reached(part(z, 1), moves).containsKey(boxed(part(z, -1)))) return false;
        }
        return true;
    }

    /** The vectors that steps reach from the start, each with its smallest number of steps. */
    private Map<List<Integer>, Integer> reached(int[] start, Set<Integer> moves) {
        Map<List<Integer>, Integer> steps = new HashMap<>();
        ArrayDeque<int[]> next = new ArrayDeque<>(List.of(start));
        steps.put(boxed(start), 0);
        while (!next.isEmpty()) {
            int[] y = next.remove();
            for (int move : moves) {
                for (int sign = -1; sign <= 1; sign += 2) {
                    int[] to = y.clone();
                    boolean negative = false;
                    for (int i = 0; i < n(); i++) {
                        to[i] += sign * elements.get(move)[i];
                        negative |= to[i] < 0;
                    }
                    if (!negative && steps.putIfAbsent(boxed(to), steps.get(boxed(y)) + 1) == null) next.add(to);
                }
            }
        }
        return steps;
    }

    List<int[]> fiber(int[] start) {
        List<int[]> found = new ArrayList<>();
        extendFiber(new int[n()], 0, image(start), found);
        return found;
    }

    private void extendFiber(int[] y, int column, int[] left, List<int[]> found) {
        if (column == n()) {
            if (isZero(left)) found.add(y.clone());
            return;
        }
        int[] rest = left.clone();
        for (y[column] = 0; !hasNegative(rest); y[column]++) {
            extendFiber(y, column + 1, rest, found);
            for (int r = 0; r < rest.length; r++) rest[r] -= matrix[r][column];
        }
        y[column] = 0;
    }

    // ---- Graver bases

    /** From the basis of the matrix with its columns sorted, which is looked for once. */
    static List<int[]> graver(int[][] a) {
        int n = a[0].length;
        Integer[] order = new Integer[n];
        for (int i = 0; i < n; i++) order[i] = i;
        Arrays.sort(order, (i, j) -> Integer.compare(columnCode(a, i), columnCode(a, j)));
        int[][] sorted = new int[a.length][n];
        for (int r = 0; r < a.length; r++) for (int i = 0; i < n; i++) sorted[r][i] = a[r][order[i]];
        List<int[]> moved = new ArrayList<>();
        for (int[] z : GRAVER_OF_SORTED.computeIfAbsent(Arrays.deepToString(sorted), key -> search(sorted))) {
            int[] v = new int[n];
            for (int i = 0; i < n; i++) v[order[i]] = z[i];
            if (!leads(v)) for (int i = 0; i < n; i++) v[i] = -v[i];
            moved.add(v);
        }
        moved.sort(Reference::compareElements);
        return moved;
    }

    private static int columnCode(int[][] a, int column) {
        int code = 0;
        for (int[] row : a) code = code * 4 + row[column];
        return code;
    }

    /**
     * Every element is a sum of conformal circuits with at most (n - rank) factors of at most 1, and
     * a circuit's entries are at most the greatest minor of rank size: 9, 3 or 1.
     */
    private static List<int[]> search(int[][] a) {
        int rank = rank(a);
        int bound = (a[0].length - rank) * (rank == 2 ? 9 : rank == 1 ? 3 : 1);
        List<int[]> kernel = new ArrayList<>();
        searchKernel(a, new int[a[0].length], 0, bound, kernel);
        kernel.sort(Reference::compareElements);
        List<int[]> least = new ArrayList<>();
        for (int[] v : kernel) {
            if (least.stream().noneMatch(z -> conformal(z, 1, v) || conformal(z, -1, v))) least.add(v);
        }
        return least;
    }

    private static void searchKernel(int[][] a, int[] z, int column, int bound, List<int[]> kernel) {
        for (int[] row : a) {
            int sum = 0;
            int most = 0;
            for (int i = 0; i < z.length; i++) {
                if (i < column) sum += row[i] * z[i];
                else most += row[i] * bound;
            }
            if (Math.abs(sum) > most) return;
        }
        if (column == z.length) {
            if (leads(z)) kernel.add(z.clone());
            return;
        }
        int least = norm(Arrays.copyOf(z, column)) == 0 ? 0 : -bound;
        for (int value = least; value <= bound; value++) {
            z[column] = value;
            searchKernel(a, z, column + 1, bound, kernel);
        }
        z[column] = 0;
    }

    private static int compareElements(int[] u, int[] v) {
        int difference = norm(u) - norm(v);
        return difference != 0 ? difference : Arrays.compare(v, u);
    }

    private static int norm(int[] v) {
        return Arrays.stream(v).map(Math::abs).sum();
    }

    private static boolean leads(int[] v) {
        for (int value : v) if (value != 0) return value > 0;
        return false;
    }

    static boolean conformal(int[] z, int sign, int[] v) {
        for (int i = 0; i < v.length; i++) {
            if (sign * z[i] * v[i] < 0 || Math.abs(z[i]) > Math.abs(v[i])) return false;
        }
        return true;
    }

    private static int rank(int[][] a) {
        for (int i = 0; a.length == 2 && i < a[0].length; i++) {
            for (int j = 0; j < i; j++) if (a[0][i] * a[1][j] != a[0][j] * a[1][i]) return 2;
        }
        for (int[] row : a) if (!isZero(row)) return 1;
        return 0;
    }

    private static int[] image(int[][] a, int[] v) {
        int[] b = new int[a.length];
        for (int r = 0; r < a.length; r++) for (int i = 0; i < v.length; i++) b[r] += a[r][i] * v[i];
        return b;
    }

    static int[] part(int[] z, int sign) {
        return Arrays.stream(z).map(v -> Math.max(sign * v, 0)).toArray();
    }

    private static boolean isZero(int[] v) {
        for (int value : v) if (value != 0) return false;
        return true;
    }

    private static boolean hasNegative(int[] v) {
        for (int value : v) if (value < 0) return true;
        return false;
    }

    private static Set<Integer> support(int[] z) {
        Set<Integer> places = new HashSet<>();
        for (int i = 0; i < z.length; i++) if (z[i] != 0) places.add(i);
        return places;
    }

    private static List<Integer> boxed(int[] v) {
        List<Integer> list = new ArrayList<>();
        for (int value : v) list.add(value);
        return list;
    }

    private static int[][] copy(int[][] a) {
        int[][] copied = new int[a.length][];
        for (int r = 0; r < a.length; r++) copied[r] = a[r].clone();
        return copied;
    }
}
