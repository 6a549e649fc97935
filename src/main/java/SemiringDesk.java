import java.util.NoSuchElementException;

/** Six registers with sparse matrices, worked on over four semirings and as graphs. */
public final class SemiringDesk {
    private static final int REGISTERS = 6;
    private static final int LARGEST_SIDE = 8;
    private static final long LARGEST_VALUE = 1_000_000_000_000L;
    private static final long LONGEST_WAY = 1_000_000_000L;

    private static final int PLUS_TIMES = 0;
    private static final int LEAST_PLUS = 1;
    private static final int OR_AND = 2;
    private static final int GREATEST_LEAST = 3;

    private static final int NO_MASK = -1;
    private static final int MASK_TURNED = 1;
    private static final int ADDED = 2;

    private static final int VALUE_LESS = 0;
    private static final int VALUE_GREATER = 1;
    private static final int ABOVE_DIAGONAL = 2;
    private static final int BELOW_DIAGONAL = 3;
    private static final int ON_DIAGONAL = 4;

    private final Matrix[] registers;

    // Results are worked out here and change places with the register to at the very end:
    // so a register may be read and be the target, a call that throws changes nothing,
    // and no call makes a new matrix.
    private Matrix spare;

    public SemiringDesk() {
        registers = new Matrix[REGISTERS];
        for (int r = 0; r < REGISTERS; r++) {
            registers[r] = new Matrix();
        }
        spare = new Matrix();
    }

    public void shape(int r, int rows, int columns) throws IllegalArgumentException {
        requireRegister(r);
        requireSide(rows);
        requireSide(columns);
        registers[r].clear(rows, columns);
    }

    public void put(int r, int i, int j, long v) throws IllegalArgumentException {
        requirePlace(r, i, j);
        requireValue(v);
        registers[r].enter(i, j, v);
    }

    public boolean drop(int r, int i, int j) throws IllegalArgumentException {
        requirePlace(r, i, j);
        boolean was = registers[r].has(i, j);
        registers[r].remove(i, j);
        return was;
    }

    public long at(int r, int i, int j) throws IllegalArgumentException, NoSuchElementException {
        requirePlace(r, i, j);
        requireEntry(registers[r].has(i, j));
        return registers[r].value(i, j);
    }

    public int size(int r) throws IllegalArgumentException {
        requireRegister(r);
        Matrix m = registers[r];
        return m.rows + 16 * m.columns + 256 * m.count();
    }

    public int multiply(int to, int a, int b, int k, int mask, int how)
            throws IllegalArgumentException, IllegalStateException, UnsupportedOperationException {
        requireOperands(to, a, b, k);
        requireMask(mask);
        requireHow(how, MASK_TURNED | ADDED);
        Matrix left = registers[a];
        Matrix right = registers[b];
        requireFit(left.columns == right.rows);
        requireFit(mask == NO_MASK || registers[mask].isShaped(left.rows, right.columns));
        boolean added = (how & ADDED) != 0;
        requireFit(!added || registers[to].isShaped(left.rows, right.columns));
        Matrix result = blank(left.rows, right.columns);
        boolean turned = (how & MASK_TURNED) != 0;
        for (int i = 0; i < result.rows; i++) {
            for (int j = 0; j < result.columns; j++) {
                if (mask == NO_MASK || registers[mask].has(i, j) != turned) {
                    gatherProducts(result, left, right, i, j, k);
                }
            }
        }
        if (added) {
            gatherAll(result, registers[to], k);
        }
        dropZeros(result, k);
        return keep(to);
    }

    public int add(int to, int a, int b, int k)
            throws IllegalArgumentException, IllegalStateException, UnsupportedOperationException {
        requireOperands(to, a, b, k);
        requireSameShape(a, b);
        Matrix result = blank(registers[a].rows, registers[a].columns);
        gatherAll(result, registers[a], k);
        gatherAll(result, registers[b], k);
        dropZeros(result, k);
        return keep(to);
    }

    public int each(int to, int a, int b, int k)
            throws IllegalArgumentException, IllegalStateException, UnsupportedOperationException {
        requireOperands(to, a, b, k);
        requireSameShape(a, b);
        Matrix left = registers[a];
        Matrix right = registers[b];
        Matrix result = blank(left.rows, left.columns);
        for (int i = 0; i < result.rows; i++) {
            for (int j = 0; j < result.columns; j++) {
                if (left.has(i, j) && right.has(i, j)) {
                    result.enter(i, j, productOver(k, left.value(i, j), right.value(i, j)));
                }
            }
        }
        dropZeros(result, k);
        return keep(to);
    }

    public int transpose(int to, int a) throws IllegalArgumentException {
        requireRegister(to);
        requireRegister(a);
        Matrix from = registers[a];
        Matrix result = blank(from.columns, from.rows);
        for (int i = 0; i < from.rows; i++) {
            for (int j = 0; j < from.columns; j++) {
                if (from.has(i, j)) {
                    result.enter(j, i, from.value(i, j));
                }
            }
        }
        return keep(to);
    }

    public int select(int to, int a, int how, long x) throws IllegalArgumentException {
        requireRegister(to);
        requireRegister(a);
        requireHow(how, ON_DIAGONAL);
        Matrix from = registers[a];
        Matrix result = blank(from.rows, from.columns);
        for (int i = 0; i < from.rows; i++) {
            for (int j = 0; j < from.columns; j++) {
                if (from.has(i, j) && isSelected(how, i, j, from.value(i, j), x)) {
                    result.enter(i, j, from.value(i, j));
                }
            }
        }
        return keep(to);
    }

    public long reduce(int a, int k)
            throws IllegalArgumentException, NoSuchElementException, UnsupportedOperationException {
        requireRegister(a);
        requireSemiring(k);
        Matrix from = registers[a];
        Matrix total = blank(1, 1);
        for (int i = 0; i < from.rows; i++) {
            for (int j = 0; j < from.columns; j++) {
                if (from.has(i, j)) {
                    gather(total, 0, 0, from.value(i, j), k);
                }
            }
        }
        requireEntry(total.has(0, 0));
        return total.value(0, 0);
    }

    public int levels(int to, int a, int source)
            throws IllegalArgumentException, IllegalStateException, NoSuchElementException {
        requireRegister(to);
        requireGraph(a);
        Matrix graph = registers[a];
        requireVertex(graph, source);
        Matrix result = blank(1, graph.columns);
        result.enter(0, source, 0);
        // A level beyond the last vertex can't be reached, for no vertex is entered twice.
        for (int level = 0; level < graph.rows; level++) {
            enterNextLevel(result, graph, level);
        }
        return keep(to);
    }

    public int paths(int to, int a)
            throws IllegalArgumentException, IllegalStateException, UnsupportedOperationException,
            NoSuchElementException {
        requireRegister(to);
        requireGraph(a);
        Matrix graph = registers[a];
        requireLengths(graph);
        Matrix result = blank(graph.rows, graph.columns);
        gatherAll(result, graph, LEAST_PLUS);
        for (int i = 0; i < graph.rows; i++) {
            gather(result, i, i, 0, LEAST_PLUS);
        }
        for (int over = 0; over < graph.rows; over++) {
            shortenOver(result, over);
            // Looked at in every round: once there is such a circle the sums could grow
            // beyond the range of values, and another exception would be thrown.
            requireNoCircleBelowZero(result);
        }
        return keep(to);
    }

    public int triangles(int a) throws IllegalArgumentException, IllegalStateException {
        requireGraph(a);
        Matrix graph = registers[a];
        int found = 0;
        for (int t = 0; t < graph.rows; t++) {
            for (int j = 0; j < t; j++) {
                for (int i = 0; i < j; i++) {
                    if (graph.has(j, i) && graph.has(t, i) && graph.has(t, j)) {
                        found++;
                    }
                }
            }
        }
        return found;
    }

    public int components(int to, int a) throws IllegalArgumentException, IllegalStateException {
        requireRegister(to);
        requireGraph(a);
        Matrix graph = registers[a];
        Matrix result = blank(1, graph.columns);
        for (int j = 0; j < graph.columns; j++) {
            result.enter(0, j, j);
        }
        // Each round takes the least vertex at least one way further, and no vertex is
        // more ways away than there are vertices.
        for (int round = 0; round < graph.rows; round++) {
            spreadLeastVertices(result, graph);
        }
        return keep(to);
    }

    private Matrix blank(int rows, int columns) {
        spare.clear(rows, columns);
        return spare;
    }

    private int keep(int to) {
        Matrix result = spare;
        spare = registers[to];
        registers[to] = result;
        return result.count();
    }

    private static void gatherProducts(Matrix into, Matrix left, Matrix right, int i, int j, int k) {
        for (int t = 0; t < left.columns; t++) {
            if (left.has(i, t) && right.has(t, j)) {
                gather(into, i, j, productOver(k, left.value(i, t), right.value(t, j)), k);
            }
        }
    }

    private static void gatherAll(Matrix into, Matrix from, int k) {
        for (int i = 0; i < from.rows; i++) {
            for (int j = 0; j < from.columns; j++) {
                if (from.has(i, j)) {
                    gather(into, i, j, from.value(i, j), k);
                }
            }
        }
    }

    // The first value at a place stays as it is: semirings 1 and 3 have no value to begin a
    // sum with.
    private static void gather(Matrix into, int i, int j, long v, int k) {
        into.enter(i, j, into.has(i, j) ? sumOver(k, into.value(i, j), v) : v);
    }

    // Only at the end of an operation: a 0 on the way still counts as an entry there.
    private static void dropZeros(Matrix m, int k) {
        if (k != PLUS_TIMES && k != OR_AND) {
            return;
        }
        for (int i = 0; i < m.rows; i++) {
            for (int j = 0; j < m.columns; j++) {
                if (m.has(i, j) && m.value(i, j) == 0) {
                    m.remove(i, j);
                }
            }
        }
    }

    private static long sumOver(int k, long x, long y) {
        switch (k) {
            case PLUS_TIMES:
                return plus(x, y);
            case LEAST_PLUS:
                return Math.min(x, y);
            case OR_AND:
                return x != 0 || y != 0 ? 1 : 0;
            default:
                return Math.max(x, y);
        }
    }

    private static long productOver(int k, long x, long y) {
        switch (k) {
            case PLUS_TIMES:
                return times(x, y);
            case LEAST_PLUS:
                return plus(x, y);
            case OR_AND:
                return x != 0 && y != 0 ? 1 : 0;
            default:
                return Math.min(x, y);
        }
    }

    private static long plus(long x, long y) {
        long sum = x + y;
        if (!isValue(sum)) {
            throw new UnsupportedOperationException("a sum is out of range");
        }
        return sum;
    }

    // Divides instead of looking at the product, which may be beyond a long.
    private static long times(long x, long y) {
        if (x != 0 && Math.abs(y) > LARGEST_VALUE / Math.abs(x)) {
            throw new UnsupportedOperationException("a product is out of range");
        }
        return x * y;
    }

    private static boolean isSelected(int how, int i, int j, long v, long x) {
        switch (how) {
            case VALUE_LESS:
                return v < x;
            case VALUE_GREATER:
                return v > x;
            case ABOVE_DIAGONAL:
                return i < j;
            case BELOW_DIAGONAL:
                return i > j;
            default:
                return i == j;
        }
    }

    private static void enterNextLevel(Matrix result, Matrix graph, int level) {
        for (int i = 0; i < graph.rows; i++) {
            if (result.has(0, i) && result.value(0, i) == level) {
                enterNeighbours(result, graph, i, level + 1);
            }
        }
    }

    private static void enterNeighbours(Matrix result, Matrix graph, int i, int level) {
        for (int j = 0; j < graph.columns; j++) {
            if (graph.has(i, j) && !result.has(0, j)) {
                result.enter(0, j, level);
            }
        }
    }

    private static void shortenOver(Matrix lengths, int over) {
        for (int i = 0; i < lengths.rows; i++) {
            for (int j = 0; j < lengths.columns; j++) {
                if (lengths.has(i, over) && lengths.has(over, j)) {
                    long length = productOver(LEAST_PLUS, lengths.value(i, over), lengths.value(over, j));
                    gather(lengths, i, j, length, LEAST_PLUS);
                }
            }
        }
    }

    private static void spreadLeastVertices(Matrix result, Matrix graph) {
        for (int i = 0; i < graph.rows; i++) {
            for (int j = 0; j < graph.columns; j++) {
                if (graph.has(i, j)) {
                    long least = Math.min(result.value(0, i), result.value(0, j));
                    result.enter(0, i, least);
                    result.enter(0, j, least);
                }
            }
        }
    }

    private static boolean isValue(long v) {
        return v >= -LARGEST_VALUE && v <= LARGEST_VALUE;
    }

    private static void requireRegister(int r) {
        if (r < 0 || r >= REGISTERS) {
            throw new IllegalArgumentException("no such register");
        }
    }

    private static void requireSemiring(int k) {
        if (k < PLUS_TIMES || k > GREATEST_LEAST) {
            throw new IllegalArgumentException("no such semiring");
        }
    }

    private static void requireOperands(int to, int a, int b, int k) {
        requireRegister(to);
        requireRegister(a);
        requireRegister(b);
        requireSemiring(k);
    }

    private static void requireMask(int mask) {
        if (mask != NO_MASK) {
            requireRegister(mask);
        }
    }

    private static void requireHow(int how, int last) {
        if (how < 0 || how > last) {
            throw new IllegalArgumentException("no such how");
        }
    }

    private static void requireSide(int side) {
        if (side < 1 || side > LARGEST_SIDE) {
            throw new IllegalArgumentException("rows and columns are 1 to 8");
        }
    }

    private void requirePlace(int r, int i, int j) {
        requireRegister(r);
        if (i < 0 || i >= registers[r].rows || j < 0 || j >= registers[r].columns) {
            throw new IllegalArgumentException("no such place");
        }
    }

    private static void requireValue(long v) {
        if (!isValue(v)) {
            throw new IllegalArgumentException("the value is out of range");
        }
    }

    private static void requireEntry(boolean there) {
        if (!there) {
            throw new NoSuchElementException("no entry");
        }
    }

    private static void requireFit(boolean fits) {
        if (!fits) {
            throw new IllegalStateException("rows and columns do not fit");
        }
    }

    private void requireSameShape(int a, int b) {
        requireFit(registers[a].isShaped(registers[b].rows, registers[b].columns));
    }

    private void requireGraph(int a) {
        requireRegister(a);
        requireFit(registers[a].rows == registers[a].columns);
    }

    private static void requireVertex(Matrix graph, int vertex) {
        if (vertex < 0 || vertex >= graph.rows) {
            throw new NoSuchElementException("no such vertex");
        }
    }

    private static void requireLengths(Matrix graph) {
        for (int i = 0; i < graph.rows; i++) {
            for (int j = 0; j < graph.columns; j++) {
                if (graph.has(i, j) && Math.abs(graph.value(i, j)) > LONGEST_WAY) {
                    throw new UnsupportedOperationException("a length is out of range");
                }
            }
        }
    }

    private static void requireNoCircleBelowZero(Matrix lengths) {
        for (int i = 0; i < lengths.rows; i++) {
            if (lengths.value(i, i) < 0) {
                throw new NoSuchElementException("a circle is shorter than 0");
            }
        }
    }

    /** One matrix; its arrays have room for the largest shape, so that they serve every shape. */
    private static final class Matrix {
        int rows;
        int columns;
        private final long[] values;
        private final boolean[] filled;

        Matrix() {
            rows = 1;
            columns = 1;
            values = new long[LARGEST_SIDE * LARGEST_SIDE];
            filled = new boolean[LARGEST_SIDE * LARGEST_SIDE];
        }

        void clear(int newRows, int newColumns) {
            rows = newRows;
            columns = newColumns;
            for (int place = 0; place < filled.length; place++) {
                filled[place] = false;
            }
        }

        boolean isShaped(int wantedRows, int wantedColumns) {
            return rows == wantedRows && columns == wantedColumns;
        }

        boolean has(int i, int j) {
            return filled[i * LARGEST_SIDE + j];
        }

        long value(int i, int j) {
            return values[i * LARGEST_SIDE + j];
        }

        void enter(int i, int j, long v) {
            values[i * LARGEST_SIDE + j] = v;
            filled[i * LARGEST_SIDE + j] = true;
        }

        void remove(int i, int j) {
            filled[i * LARGEST_SIDE + j] = false;
        }

        int count() {
            int found = 0;
            for (int place = 0; place < filled.length; place++) {
                if (filled[place]) {
                    found++;
                }
            }
            return found;
        }
    }
}
