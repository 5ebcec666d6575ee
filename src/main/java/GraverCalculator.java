/**
 * A calculator for lattice moves of small integer matrices: kernels, Graver bases, circuits,
 * conformal decompositions, fibers of nonnegative points, and Markov bases.
 */
public final class GraverCalculator {
    public static final int INVALID_ARGUMENT = -1001;
    public static final int ILLEGAL_STATE = -1002;
    public static final int CAPACITY_EXCEEDED = -1003;
    public static final int NONE = -1009;

    private static final int MAX_ROWS = 2;
    private static final int MIN_COLUMNS = 2;
    private static final int MAX_COLUMNS = 4;
    private static final int MAX_ENTRY = 3;
    private static final int MAX_VECTOR = 30;
    private static final int MAX_POINT = 5;
    private static final int MAX_CHARACTER = 255;
    private static final int TEXT_ROOM = 40;
    private static final int HISTORY_ROOM = 8;
    private static final int ERROR_BASE = -10;

    // The greatest numbers that occur are 14, 1991 and 23: AllMatricesTest looks at every matrix.
    // The rooms of the fibers are powers of two, which the search in them needs.
    private static final int ELEMENT_ROOM = 16;
    private static final int POINT_FIBER_ROOM = 2048;
    private static final int ELEMENT_FIBER_ROOM = 32;

    // Every step takes at least 1 from a sum of absolute values that begins at 4 times 30 at most.
    private static final int SEQUENCE_ROOM = MAX_COLUMNS * MAX_VECTOR;

    private final State state = new State();
    private final History history = new History();
    private final MatrixText text = new MatrixText();
    private final GraverBasis basis = new GraverBasis();
    private final Decomposition decomposition = new Decomposition();
    private final Fiber pointFiber = new Fiber(POINT_FIBER_ROOM);
    private final Fiber elementFiber = new Fiber(ELEMENT_FIBER_ROOM);
    private final Walk walk = new Walk();
    private final int[] part = new int[MAX_COLUMNS];
    private boolean pointFiberBuilt;

    public GraverCalculator() {
        state.reshape(1, 3);
        state.fillWithOnes();
        takeNewMatrix();
    }

    public int configure(int rows, int columns) {
        if (rows < 1 || rows > MAX_ROWS || columns < MIN_COLUMNS || columns > MAX_COLUMNS) {
            return INVALID_ARGUMENT;
        }
        int previous = state.columns;
        save();
        state.reshape(rows, columns);
        state.fillWithOnes();
        takeNewMatrix();
        return previous;
    }

    public int setEntry(int row, int column, int value) {
        if (!isRow(row) || !isColumn(column) || value < 0 || value > MAX_ENTRY) {
            return INVALID_ARGUMENT;
        }
        int previous = state.at(row, column);
        if (previous == value) {
            return ILLEGAL_STATE;
        }
        save();
        state.put(row, column, value);
        takeNewMatrix();
        return previous;
    }

    public int append(int character) {
        if (character < 0 || character > MAX_CHARACTER) {
            return INVALID_ARGUMENT;
        }
        if (text.length >= TEXT_ROOM) {
            return CAPACITY_EXCEEDED;
        }
        text.add(character);
        return text.length;
    }

    public int clearText() {
        int previous = text.length;
        text.length = 0;
        return previous;
    }

    public int loadText() {
        int position = text.findError();
        if (position >= 0) {
            return ERROR_BASE - position;
        }
        save();
        state.reshape(text.rows, text.columns);
        state.fillFrom(text.digits);
        takeNewMatrix();
        text.length = 0;
        return state.rows;
    }

    public int entry(int row, int column) {
        if (!isRow(row) || !isColumn(column)) {
            return INVALID_ARGUMENT;
        }
        return state.at(row, column);
    }

    public int rank() {
        return basis.rankOfMatrix;
    }

    public int isPositive() {
        return asNumber(state.hasNoZeroColumn());
    }

    public int graverCount() {
        return basis.count;
    }

    public int graverEntry(int element, int index) {
        if (!isElement(element) || !isColumn(index)) {
            return INVALID_ARGUMENT;
        }
        return basis.at(element, index);
    }

    public int isCircuit(int element) {
        if (!isElement(element)) {
            return INVALID_ARGUMENT;
        }
        return asNumber(basis.hasLeastSupport(element));
    }

    public int isIndispensable(int element) {
        if (!isElement(element)) {
            return INVALID_ARGUMENT;
        }
        if (!state.hasNoZeroColumn()) {
            return ILLEGAL_STATE;
        }
        buildElementFiber(element);
        return asNumber(elementFiber.size == 2);
    }

    public int setVector(int index, int value) {
        if (!isColumn(index) || value < -MAX_VECTOR || value > MAX_VECTOR) {
            return INVALID_ARGUMENT;
        }
        int previous = state.vector[index];
        save();
        state.vector[index] = value;
        return previous;
    }

    public int isInKernel() {
        return asNumber(state.hasVectorInKernel());
    }

    public int decompositionLength() {
        if (!state.hasVectorInKernel()) {
            return ILLEGAL_STATE;
        }
        decomposition.find(basis, state.vector);
        return decomposition.length;
    }

    public int decompositionStep(int step) {
        if (step < 0) {
            return INVALID_ARGUMENT;
        }
        if (!state.hasVectorInKernel()) {
            return ILLEGAL_STATE;
        }
        decomposition.find(basis, state.vector);
        if (step >= decomposition.length) {
            return NONE;
        }
        return decomposition.sequence[step];
    }

    public int setPoint(int index, int value) {
        if (!isColumn(index) || value < 0 || value > MAX_POINT) {
            return INVALID_ARGUMENT;
        }
        int previous = state.point[index];
        save();
        state.point[index] = value;
        return previous;
    }

    public int fiberSize() {
        if (!state.hasNoZeroColumn()) {
            return ILLEGAL_STATE;
        }
        buildPointFiber();
        return pointFiber.size;
    }

    public int fiberEntry(int number, int index) {
        if (number < 0 || !isColumn(index)) {
            return INVALID_ARGUMENT;
        }
        if (!state.hasNoZeroColumn()) {
            return ILLEGAL_STATE;
        }
        buildPointFiber();
        if (number >= pointFiber.size) {
            return NONE;
        }
        return pointFiber.at(number, index);
    }

    public int activate(int element, int on) {
        if (!isElement(element) || on < 0 || on > 1) {
            return INVALID_ARGUMENT;
        }
        if (asNumber(state.isOn(element)) == on) {
            return ILLEGAL_STATE;
        }
        save();
        state.switchTo(element, on == 1);
        return state.countOn();
    }

    public int isActive(int element) {
        if (!isElement(element)) {
            return INVALID_ARGUMENT;
        }
        return asNumber(state.isOn(element));
    }

    public int classes() {
        if (!state.hasNoZeroColumn()) {
            return ILLEGAL_STATE;
        }
        buildPointFiber();
        return walk.countClasses(pointFiber, basis, state);
    }

    public int distance(int number) {
        if (number < 0) {
            return INVALID_ARGUMENT;
        }
        if (!state.hasNoZeroColumn()) {
            return ILLEGAL_STATE;
        }
        buildPointFiber();
        int start = pointFiber.numberOf(state.point);
        int steps = walk.countSteps(pointFiber, basis, state, start, number);
        return steps < 0 ? NONE : steps;
    }

    public int isMarkov() {
        if (!state.hasNoZeroColumn()) {
            return ILLEGAL_STATE;
        }
        return asNumber(isMarkovBasis());
    }

    public int reduce() {
        if (!state.hasNoZeroColumn() || !isMarkovBasis()) {
            return ILLEGAL_STATE;
        }
        save();
        for (int element = basis.count - 1; element >= 0; element--) {
            if (state.isOn(element)) {
                switchOffIfSpare(element);
            }
        }
        return state.countOn();
    }

    public int undo() {
        if (history.count == 0) {
            return ILLEGAL_STATE;
        }
        history.restore(state);
        pointFiberBuilt = false;
        basis.build(state);
        return history.count;
    }

    private static int asNumber(boolean truth) {
        return truth ? 1 : 0;
    }

    private boolean isRow(int row) {
        return row >= 0 && row < state.rows;
    }

    private boolean isColumn(int column) {
        return column >= 0 && column < state.columns;
    }

    private boolean isElement(int element) {
        return element >= 0 && element < basis.count;
    }

    /** Stands before every change of the state, so the fiber kept for the point ends here too. */
    private void save() {
        history.save(state);
        pointFiberBuilt = false;
    }

    private void takeNewMatrix() {
        basis.build(state);
        state.switchAllOn(basis.count);
    }

    private void buildPointFiber() {
        if (!pointFiberBuilt) {
            pointFiber.build(state, state.point);
            pointFiberBuilt = true;
        }
    }

    private void buildElementFiber(int element) {
        basis.copyPart(element, 1, part);
        elementFiber.build(state, part);
    }

    private boolean isMarkovBasis() {
        for (int element = 0; element < basis.count; element++) {
            if (!state.isOn(element) && !joinsItsParts(element)) {
                return false;
            }
        }
        return true;
    }

    /**
     * The others are a Markov basis without the element just if they join its two parts: every
     * step by the element is then replaced by that path, shifted.
     */
    private void switchOffIfSpare(int element) {
        state.switchTo(element, false);
        if (!joinsItsParts(element)) {
            state.switchTo(element, true);
        }
    }

    private boolean joinsItsParts(int element) {
        buildElementFiber(element);
        int start = elementFiber.numberOf(part);
        basis.copyPart(element, -1, part);
        int end = elementFiber.numberOf(part);
        return walk.countSteps(elementFiber, basis, state, start, end) >= 0;
    }

    /** What undo() restores. Entries beyond the rows and columns in use are 0. */
    private static final class State {
        int rows;
        int columns;
        final int[] matrix = new int[MAX_ROWS * MAX_COLUMNS];
        final int[] vector = new int[MAX_COLUMNS];
        final int[] point = new int[MAX_COLUMNS];
        private int active;

        int at(int row, int column) {
            int place = row * MAX_COLUMNS + column;
            return place >= 0 && place < matrix.length ? matrix[place] : 0;
        }

        void put(int row, int column, int value) {
            int place = row * MAX_COLUMNS + column;
            if (place >= 0 && place < matrix.length) {
                matrix[place] = value;
            }
        }

        void reshape(int newRows, int newColumns) {
            if (columns != newColumns) {
                for (int i = 0; i < MAX_COLUMNS; i++) {
                    vector[i] = 0;
                    point[i] = 0;
                }
            }
            rows = newRows;
            columns = newColumns;
            for (int i = 0; i < matrix.length; i++) {
                matrix[i] = 0;
            }
        }

        void fillWithOnes() {
            for (int row = 0; row < rows; row++) {
                for (int column = 0; column < columns; column++) {
                    put(row, column, 1);
                }
            }
        }

        void fillFrom(int[] digits) {
            for (int row = 0; row < rows; row++) {
                for (int column = 0; column < columns; column++) {
                    put(row, column, digits[row * MAX_COLUMNS + column]);
                }
            }
        }

        int product(int row, int[] factor) {
            int sum = 0;
            for (int column = 0; column < columns; column++) {
                sum += at(row, column) * factor[column];
            }
            return sum;
        }

        int minor(int left, int right) {
            return at(0, left) * at(1, right) - at(1, left) * at(0, right);
        }

        boolean hasNoZeroColumn() {
            for (int column = 0; column < columns; column++) {
                if (at(0, column) == 0 && at(1, column) == 0) {
                    return false;
                }
            }
            return true;
        }

        boolean hasVectorInKernel() {
            return product(0, vector) == 0 && product(1, vector) == 0;
        }

        boolean isOn(int element) {
            return ((active >> element) & 1) == 1;
        }

        void switchTo(int element, boolean on) {
            int bit = 1 << element;
            active = on ? (active | bit) : (active & ~bit);
        }

        void switchAllOn(int count) {
            active = (1 << count) - 1;
        }

        int countOn() {
            return Integer.bitCount(active);
        }

        void copyFrom(State other) {
            rows = other.rows;
            columns = other.columns;
            active = other.active;
            System.arraycopy(other.matrix, 0, matrix, 0, matrix.length);
            System.arraycopy(other.vector, 0, vector, 0, vector.length);
            System.arraycopy(other.point, 0, point, 0, point.length);
        }
    }

    /** The saved states in a ring whose places are made once and used again. */
    private static final class History {
        int count;
        private int oldest;
        private final State[] saved = new State[HISTORY_ROOM];

        History() {
            for (int i = 0; i < HISTORY_ROOM; i++) {
                saved[i] = new State();
            }
        }

        void save(State state) {
            if (count == HISTORY_ROOM) {
                oldest = (oldest + 1) % HISTORY_ROOM;
                count--;
            }
            saved[(oldest + count) % HISTORY_ROOM].copyFrom(state);
            count++;
        }

        void restore(State state) {
            if (count > 0) {
                count--;
                state.copyFrom(saved[(oldest + count) % HISTORY_ROOM]);
            }
        }
    }

    /** The text that append() builds, and the matrix that was last read from it. */
    private static final class MatrixText {
        int length;
        int rows;
        int columns;
        final int[] digits = new int[MAX_ROWS * MAX_COLUMNS];
        private final int[] characters = new int[TEXT_ROOM];
        private int digitsInRow;

        void add(int character) {
            if (length < TEXT_ROOM) {
                characters[length] = character;
                length++;
            }
        }

        /** Returns the error position, or -1 if rows, columns and digits now hold the matrix. */
        int findError() {
            rows = 1;
            digitsInRow = 0;
            for (int i = 0; i < length; i++) {
                if (!takes(characters[i])) {
                    return i;
                }
            }
            if (digitsInRow < digitsNeeded()) {
                return length;
            }
            if (rows == 1) {
                columns = digitsInRow;
            }
            return -1;
        }

        private int digitsNeeded() {
            return rows == 1 ? MIN_COLUMNS : columns;
        }

        private boolean takes(int character) {
            if (character == ' ') {
                return true;
            }
            return character == ';' ? takesRowEnd() : takesDigit(character - '0');
        }

        private boolean takesRowEnd() {
            if (rows == MAX_ROWS || digitsInRow < MIN_COLUMNS) {
                return false;
            }
            columns = digitsInRow;
            digitsInRow = 0;
            rows = MAX_ROWS;
            return true;
        }

        private boolean takesDigit(int digit) {
            int most = rows == 1 ? MAX_COLUMNS : columns;
            if (digit < 0 || digit > MAX_ENTRY || digitsInRow >= most) {
                return false;
            }
            digits[(rows - 1) * MAX_COLUMNS + digitsInRow] = digit;
            digitsInRow++;
            return true;
        }
    }

    /**
     * The Graver basis of a matrix. All kernel vectors within the bound of the elements' entries
     * are put in the elements' order; the elements are those to which no earlier one is conformal.
     */
    private static final class GraverBasis {
        // Of rank 2: entries of circuits are minors, and with 4 columns at most every other element
        // lies within the triangle of 0 and two circuits, so no entry exceeds a minor of entries to 3.
        private static final int BOUND_OF_RANK_2 = 9;
        // Of rank 1: the theorem on primitive partition identities (sums at most the opposite parts).
        private static final int BOUND_OF_RANK_1 = MAX_ENTRY;
        private static final int BOUND_OF_RANK_0 = 1;
        // Half of the 19 * 19 vectors of rank 2 is the most; rank 1 has 7 * 7 * 7.
        private static final int CANDIDATE_ROOM = 192;
        private static final int BITS = 5;
        private static final int MASK = (1 << BITS) - 1;

        int count;
        int rankOfMatrix;
        private final int[] entries = new int[ELEMENT_ROOM * MAX_COLUMNS];
        private int columns;
        private int bound;
        private int firstPivot;
        private int secondPivot;
        private int pivotRow;
        private int divisor;
        private int freeCount;
        private final int[] freeColumns = new int[MAX_COLUMNS];
        private final int[] vector = new int[MAX_COLUMNS];
        private final int[] candidates = new int[CANDIDATE_ROOM];
        private int candidateCount;

        void build(State matrix) {
            columns = matrix.columns;
            choosePivots(matrix);
            listFreeColumns();
            collectCandidates(matrix);
            keepLeastCandidates();
        }

        int at(int element, int index) {
            int place = element * MAX_COLUMNS + index;
            return place >= 0 && place < entries.length ? entries[place] : 0;
        }

        /** Tells whether the element, times the sign, is conformal to the vector. */
        boolean conforms(int element, int sign, int[] other) {
            for (int i = 0; i < columns; i++) {
                int value = sign * at(element, i);
                if (value * other[i] < 0 || Math.abs(value) > Math.abs(other[i])) {
                    return false;
                }
            }
            return true;
        }

        boolean hasLeastSupport(int element) {
            int own = support(element);
            for (int other = 0; other < count; other++) {
                int foreign = support(other);
                if (foreign != own && (foreign & own) == foreign) {
                    return false;
                }
            }
            return true;
        }

        /** Copies the positive part (sign 1) or the negative part (sign -1) of an element. */
        void copyPart(int element, int sign, int[] target) {
            for (int i = 0; i < columns; i++) {
                target[i] = Math.max(sign * at(element, i), 0);
            }
        }

        private int support(int element) {
            int bits = 0;
            for (int i = 0; i < columns; i++) {
                if (at(element, i) != 0) {
                    bits |= 1 << i;
                }
            }
            return bits;
        }

        private void choosePivots(State matrix) {
            rankOfMatrix = 0;
            bound = BOUND_OF_RANK_0;
            firstPivot = -1;
            secondPivot = -1;
            divisor = 0;
            for (int column = 0; column < columns; column++) {
                for (int row = 0; row < MAX_ROWS; row++) {
                    if (matrix.at(row, column) != 0) {
                        takePivot(row, column, matrix.at(row, column));
                    }
                }
            }
            for (int left = 0; left < columns; left++) {
                for (int right = left + 1; right < columns; right++) {
                    if (matrix.minor(left, right) != 0) {
                        takePivots(left, right, matrix.minor(left, right));
                    }
                }
            }
        }

        private void takePivot(int row, int column, int value) {
            rankOfMatrix = 1;
            bound = BOUND_OF_RANK_1;
            pivotRow = row;
            firstPivot = column;
            divisor = value;
        }

        private void takePivots(int left, int right, int minor) {
            rankOfMatrix = 2;
            bound = BOUND_OF_RANK_2;
            firstPivot = left;
            secondPivot = right;
            divisor = minor;
        }

        private void listFreeColumns() {
            freeCount = 0;
            for (int column = 0; column < columns; column++) {
                if (column != firstPivot && column != secondPivot) {
                    freeColumns[freeCount] = column;
                    freeCount++;
                }
            }
        }

        private void collectCandidates(State matrix) {
            int width = 2 * bound + 1;
            int total = 1;
            for (int i = 0; i < freeCount; i++) {
                total *= width;
            }
            candidateCount = 0;
            for (int code = 0; code < total; code++) {
                setFreeColumns(code, width);
                if (solvePivots(matrix) && isWithinBound() && leads()) {
                    insertCandidate(encode());
                }
            }
        }

        private void setFreeColumns(int code, int width) {
            for (int i = 0; i < MAX_COLUMNS; i++) {
                vector[i] = 0;
            }
            int rest = code;
            for (int i = 0; i < freeCount; i++) {
                vector[freeColumns[i]] = rest % width - bound;
                rest /= width;
            }
        }

        /**
         * Completes the vector, whose pivots are 0, to a kernel vector; false if there is none.
         * Without a pivot (divisor 0, rank 0) every vector is one.
         */
        private boolean solvePivots(State matrix) {
            if (divisor == 0) {
                return true;
            }
            if (rankOfMatrix == 1) {
                int sum = matrix.product(pivotRow, vector);
                vector[firstPivot] = -sum / divisor;
                return sum % divisor == 0;
            }
            int upper = matrix.product(0, vector);
            int lower = matrix.product(1, vector);
            int first = matrix.at(0, secondPivot) * lower - matrix.at(1, secondPivot) * upper;
            int second = matrix.at(1, firstPivot) * upper - matrix.at(0, firstPivot) * lower;
            vector[firstPivot] = first / divisor;
            vector[secondPivot] = second / divisor;
            return first % divisor == 0 && second % divisor == 0;
        }

        private boolean isWithinBound() {
            for (int i = 0; i < columns; i++) {
                if (Math.abs(vector[i]) > bound) {
                    return false;
                }
            }
            return true;
        }

        private boolean leads() {
            for (int i = 0; i < columns; i++) {
                if (vector[i] != 0) {
                    return vector[i] > 0;
                }
            }
            return false;
        }

        /** Numbers that ascend as the elements are numbered: by sum, then lexicographically down. */
        private int encode() {
            int sum = 0;
            int code = 0;
            for (int i = 0; i < MAX_COLUMNS; i++) {
                sum += Math.abs(vector[i]);
                code = (code << BITS) | (BOUND_OF_RANK_2 - vector[i]);
            }
            return (sum << (BITS * MAX_COLUMNS)) | code;
        }

        private void decode(int code) {
            for (int i = 0; i < MAX_COLUMNS; i++) {
                vector[i] = BOUND_OF_RANK_2 - ((code >> (BITS * (MAX_COLUMNS - 1 - i))) & MASK);
            }
        }

        private void insertCandidate(int code) {
            if (candidateCount >= CANDIDATE_ROOM) {
                return;
            }
            int place = candidateCount;
            while (place > 0 && candidates[place - 1] > code) {
                candidates[place] = candidates[place - 1];
                place--;
            }
            candidates[place] = code;
            candidateCount++;
        }

        private void keepLeastCandidates() {
            count = 0;
            for (int i = 0; i < candidateCount; i++) {
                decode(candidates[i]);
                if (count < ELEMENT_ROOM && !isAboveAnElement()) {
                    System.arraycopy(vector, 0, entries, count * MAX_COLUMNS, MAX_COLUMNS);
                    count++;
                }
            }
        }

        private boolean isAboveAnElement() {
            for (int element = 0; element < count; element++) {
                if (conforms(element, 1, vector) || conforms(element, -1, vector)) {
                    return true;
                }
            }
            return false;
        }
    }

    /** The conformal decomposition of a kernel vector. */
    private static final class Decomposition {
        int length;
        final int[] sequence = new int[SEQUENCE_ROOM];
        private final int[] rest = new int[MAX_COLUMNS];

        /** One pass is enough: what is not conformal to the rest is not conformal to a later one. */
        void find(GraverBasis basis, int[] vector) {
            System.arraycopy(vector, 0, rest, 0, MAX_COLUMNS);
            length = 0;
            for (int element = 0; element < basis.count; element++) {
                takeWhileConformal(basis, element, 1);
                takeWhileConformal(basis, element, -1);
            }
        }

        private void takeWhileConformal(GraverBasis basis, int element, int sign) {
            while (length < SEQUENCE_ROOM && basis.conforms(element, sign, rest)) {
                for (int i = 0; i < basis.columns; i++) {
                    rest[i] -= sign * basis.at(element, i);
                }
                sequence[length] = sign * (element + 1);
                length++;
            }
        }
    }

    /** A fiber in ascending lexicographic order, each vector packed in one number. */
    private static final class Fiber {
        // No entry comes near 127, so the numbers ascend as the vectors do.
        private static final int BITS = 7;
        private static final int MASK = (1 << BITS) - 1;

        int size;
        int columns;
        private final int[] packed;
        // The matrix, its columns pushed to the right: leading zeros do not change the order.
        private final int[] upper = new int[MAX_COLUMNS];
        private final int[] lower = new int[MAX_COLUMNS];

        Fiber(int room) {
            packed = new int[room];
        }

        /** Lists the fiber of the start; the matrix is positive. */
        void build(State matrix, int[] start) {
            takeColumns(matrix);
            size = 0;
            int sum = matrix.product(0, start);
            int sum2 = matrix.product(1, start);
            int most0 = most(0, sum, sum2);
            for (int y0 = 0; y0 <= most0; y0++) {
                int left = sum - upper[0] * y0;
                int left2 = sum2 - lower[0] * y0;
                int most1 = most(1, left, left2);
                for (int y1 = 0; y1 <= most1; y1++) {
                    addRows((y0 << BITS) | y1, left - upper[1] * y1, left2 - lower[1] * y1);
                }
            }
        }

        int at(int number, int index) {
            if (number < 0 || number >= size || index < 0 || index >= columns) {
                return 0;
            }
            return (packed[number] >> (BITS * (columns - 1 - index))) & MASK;
        }

        /** Returns the number of the vector, or -1 if it is not in the fiber. */
        int numberOf(int[] vector) {
            int code = 0;
            for (int i = 0; i < columns; i++) {
                code = (code << BITS) | vector[i];
            }
            return numberOfPacked(code);
        }

        private int numberOfPacked(int code) {
            int number = 0;
            for (int leap = packed.length / 2; leap > 0; leap /= 2) {
                if (number + leap < size && packed[number + leap] <= code) {
                    number += leap;
                }
            }
            return number < size && packed[number] == code ? number : -1;
        }

        /** The number of the vector that the step leads to, or -1 if it has a negative entry. */
        int numberAfterStep(int number, GraverBasis basis, int element, int sign) {
            int code = 0;
            for (int i = 0; i < columns; i++) {
                int value = at(number, i) + sign * basis.at(element, i);
                if (value < 0) {
                    return -1;
                }
                code = (code << BITS) | value;
            }
            return numberOfPacked(code);
        }

        private void takeColumns(State matrix) {
            columns = matrix.columns;
            int shift = MAX_COLUMNS - columns;
            for (int i = 0; i < MAX_COLUMNS; i++) {
                boolean used = i >= shift;
                upper[i] = used ? matrix.at(0, i - shift) : 0;
                lower[i] = used ? matrix.at(1, i - shift) : 0;
            }
        }

        /** The greatest entry that leaves no row below 0; 0 in front of the matrix's columns. */
        private int most(int place, int left, int left2) {
            if (upper[place] == 0 && lower[place] == 0) {
                return 0;
            }
            int limit = upper[place] > 0 ? left / upper[place] : MASK;
            int limit2 = lower[place] > 0 ? left2 / lower[place] : MASK;
            return limit < limit2 ? limit : limit2;
        }

        private void addRows(int code, int left, int left2) {
            int most2 = most(2, left, left2);
            for (int y2 = 0; y2 <= most2; y2++) {
                int due = left - upper[2] * y2;
                int due2 = left2 - lower[2] * y2;
                int y3 = most(3, due, due2);
                if (upper[3] * y3 == due && lower[3] * y3 == due2 && size < packed.length) {
                    packed[size] = (((code << BITS) | y2) << BITS) | y3;
                    size++;
                }
            }
        }
    }

    /** Walks through a fiber by active steps, breadth first. */
    private static final class Walk {
        private final int[] queue = new int[POINT_FIBER_ROOM];
        private final int[] steps = new int[POINT_FIBER_ROOM];
        private int queued;

        int countClasses(Fiber fiber, GraverBasis basis, State state) {
            forget(fiber);
            int found = 0;
            for (int number = 0; number < fiber.size; number++) {
                if (steps[number] < 0) {
                    found++;
                    reachFrom(number, fiber, basis, state);
                }
            }
            return found;
        }

        /** Returns the smallest number of steps, or -1 if there is no way or no such vector. */
        int countSteps(Fiber fiber, GraverBasis basis, State state, int start, int end) {
            if (start < 0 || start >= fiber.size || end < 0 || end >= fiber.size) {
                return -1;
            }
            forget(fiber);
            reachFrom(start, fiber, basis, state);
            return steps[end];
        }

        private void forget(Fiber fiber) {
            for (int number = 0; number < fiber.size; number++) {
                steps[number] = -1;
            }
        }

        private void reachFrom(int start, Fiber fiber, GraverBasis basis, State state) {
            queued = 0;
            reach(start, 0);
            for (int i = 0; i < queued && i < queue.length; i++) {
                int number = queue[i];
                for (int element = 0; element < basis.count; element++) {
                    if (state.isOn(element)) {
                        int next = steps[number] + 1;
                        reach(fiber.numberAfterStep(number, basis, element, 1), next);
                        reach(fiber.numberAfterStep(number, basis, element, -1), next);
                    }
                }
            }
        }

        private void reach(int number, int distance) {
            if (number >= 0 && number < steps.length && steps[number] < 0 && queued < queue.length) {
                steps[number] = distance;
                queue[queued] = number;
                queued++;
            }
        }
    }
}
