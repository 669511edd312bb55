/** Systems of up to three linear equations with whole numbers for up to three unknowns. */
public final class TriangularSystems {
    private static final int MOST_UNKNOWNS = 3;
    private static final int MOST_EQUATIONS = 3;
    private static final int MOST_NUMBER = 9;
    private static final int MOST_BOX = 12;
    // Euclid's way with two longs ends in fewer steps.
    private static final int EUCLID_STEPS = 100;

    private final int unknowns;
    private final int[][] numbers;
    private final Elimination elimination;
    private final Lattice lattice;
    private int equations;

    public TriangularSystems(int n) {
        unknowns = Math.max(1, Math.min(MOST_UNKNOWNS, n));
        numbers = new int[MOST_EQUATIONS][MOST_UNKNOWNS + 1];
        elimination = new Elimination();
        lattice = new Lattice();
        equations = 0;
    }

    public int equation() throws IllegalStateException {
        if (equations >= MOST_EQUATIONS) {
            throw new IllegalStateException("there are 3 equations");
        }
        for (int j = 0; j <= unknowns; j++) {
            numbers[equations][j] = 0;
        }
        equations++;
        return equations - 1;
    }

    public boolean put(int equation, int unknown, int v)
            throws IndexOutOfBoundsException, IllegalArgumentException {
        if (!isPlace(equation, unknown)) {
            throw new IndexOutOfBoundsException("no such equation or unknown");
        }
        if (v < -MOST_NUMBER || v > MOST_NUMBER) {
            throw new IllegalArgumentException("the number isn't -9 .. 9");
        }
        boolean another = numbers[equation][unknown] != v;
        numbers[equation][unknown] = v;
        return another;
    }

    public int at(int equation, int unknown) throws IndexOutOfBoundsException {
        if (!isPlace(equation, unknown)) {
            throw new IndexOutOfBoundsException("no such equation or unknown");
        }
        return numbers[equation][unknown];
    }

    public int rank() {
        eliminateEquations();
        return elimination.decided;
    }

    public int solutions() {
        eliminateEquations();
        return elimination.agrees() ? unknowns - elimination.decided : -1;
    }

    public int free(int k) {
        eliminateEquations();
        return elimination.freeUnknown(k);
    }

    public long plain(int unknown, int part)
            throws IndexOutOfBoundsException, IllegalStateException, IllegalArgumentException {
        if (!isUnknown(unknown)) {
            throw new IndexOutOfBoundsException("no such unknown");
        }
        eliminateEquations();
        if (!elimination.agrees()) {
            throw new IllegalStateException("there is no solution");
        }
        if (!isPart(part)) {
            throw new IllegalArgumentException("the part isn't 0 or 1");
        }
        return elimination.plainPart(unknown, part);
    }

    public long direction(int k, int unknown, int part)
            throws IndexOutOfBoundsException, IllegalArgumentException {
        eliminateEquations();
        int chosen = elimination.freeUnknown(k);
        if (chosen < 0 || !isUnknown(unknown)) {
            throw new IndexOutOfBoundsException("no such direction or unknown");
        }
        if (!isPart(part)) {
            throw new IllegalArgumentException("the part isn't 0 or 1");
        }
        return elimination.directionPart(chosen, unknown, part);
    }

    public boolean whole() {
        spanLattice();
        return lattice.isReached();
    }

    public long base(int k, int unknown) throws IndexOutOfBoundsException {
        spanLattice();
        if (k < 0 || k >= lattice.members() || !isUnknown(unknown)) {
            throw new IndexOutOfBoundsException("no such member of the base or unknown");
        }
        return lattice.member(k, unknown);
    }

    public long least(int unknown) throws IndexOutOfBoundsException, IllegalStateException {
        if (!isUnknown(unknown)) {
            throw new IndexOutOfBoundsException("no such unknown");
        }
        spanLattice();
        if (!lattice.isReached()) {
            throw new IllegalStateException("there is no whole solution");
        }
        return lattice.target[MOST_EQUATIONS + unknown];
    }

    public long nearest(int unknown, int part)
            throws IndexOutOfBoundsException, IllegalArgumentException {
        if (!isUnknown(unknown)) {
            throw new IndexOutOfBoundsException("no such unknown");
        }
        if (!isPart(part)) {
            throw new IllegalArgumentException("the part isn't 0 or 1");
        }
        eliminateNearest();
        return elimination.plainPart(unknown, part);
    }

    public long squares(int part) throws IllegalArgumentException {
        if (!isPart(part)) {
            throw new IllegalArgumentException("the part isn't 0 or 1");
        }
        eliminateNearest();
        return elimination.plainPart(unknowns, part);
    }

    public int inBox(int most) throws IllegalArgumentException {
        if (most < 0 || most > MOST_BOX) {
            throw new IllegalArgumentException("most isn't 0 .. 12");
        }
        int mostSecond = unknowns > 1 ? most : 0;
        int mostThird = unknowns > 2 ? most : 0;
        int found = 0;
        for (int y = -mostSecond; y <= mostSecond; y++) {
            for (int z = -mostThird; z <= mostThird; z++) {
                found += fittingFirsts(y, z, most);
            }
        }
        return found;
    }

    public boolean solves(int x, int y, int z) {
        for (int e = 0; e < equations; e++) {
            if (excess(e, x, y, z) != 0) {
                return false;
            }
        }
        return true;
    }

    public int count(int what) {
        if (what == 0) {
            return equations;
        }
        return what == 1 ? unknowns : -1;
    }

    public void clear() {
        equations = 0;
    }

    private boolean isUnknown(int unknown) {
        return unknown >= 0 && unknown < unknowns;
    }

    private boolean isPlace(int equation, int unknown) {
        return equation >= 0 && equation < equations && unknown >= 0 && unknown <= unknowns;
    }

    private static boolean isPart(int part) {
        return part == 0 || part == 1;
    }

    /** How much more than it should an equation comes to; long, as the callers' numbers may be any int. */
    private long excess(int equation, long x, long y, long z) {
        int[] row = numbers[equation];
        long sum = row[0] * x - row[unknowns];
        if (unknowns > 1) {
            sum += row[1] * y;
        }
        if (unknowns > 2) {
            sum += row[2] * z;
        }
        return sum;
    }

    /** How many numbers -most .. most for unknown 0 make a solution with the two others. */
    private int fittingFirsts(int y, int z, int most) {
        int from = -most;
        int to = most;
        for (int e = 0; e < equations; e++) {
            int factor = numbers[e][0];
            int missing = (int) -excess(e, 0, y, z);
            if (factor == 0) {
                if (missing != 0) {
                    return 0;
                }
            } else {
                if (missing % factor != 0) {
                    return 0;
                }
                from = Math.max(from, missing / factor);
                to = Math.min(to, missing / factor);
            }
        }
        return from <= to ? to - from + 1 : 0;
    }

    private void eliminateEquations() {
        elimination.begin(unknowns, equations);
        for (int e = 0; e < equations; e++) {
            for (int j = 0; j <= unknowns; j++) {
                elimination.rows[e][j] = numbers[e][j];
            }
        }
        elimination.eliminate();
    }

    /**
     * The nearest numbers x are the one solution of these rows, A being the equations' numbers and b what they
     * come to: A'A x = A'b makes the sum of squares least, and of those x the shortest is at right angles to the
     * base. As A x - b is then at right angles to A x, the sum of squares is b'b - b'A x: one unknown more.
     */
    private void eliminateNearest() {
        spanLattice();
        int members = lattice.members();
        elimination.begin(unknowns + 1, unknowns + 1 + members);
        for (int i = 0; i <= unknowns; i++) {
            for (int j = 0; j < unknowns; j++) {
                elimination.rows[i][j] = columnProduct(i, j);
            }
            elimination.rows[i][unknowns] = i == unknowns ? 1 : 0;
            elimination.rows[i][unknowns + 1] = columnProduct(i, unknowns);
        }
        for (int k = 0; k < members; k++) {
            for (int j = 0; j < unknowns; j++) {
                elimination.rows[unknowns + 1 + k][j] = lattice.member(k, j);
            }
        }
        elimination.eliminate();
    }

    private long columnProduct(int one, int other) {
        long sum = 0;
        for (int e = 0; e < equations; e++) {
            sum += numbers[e][one] * numbers[e][other];
        }
        return sum;
    }

    private void spanLattice() {
        lattice.begin(unknowns);
        for (int e = 0; e < equations; e++) {
            for (int j = 0; j < unknowns; j++) {
                lattice.rows[j][e] = numbers[e][j];
            }
            lattice.target[e] = -numbers[e][unknowns];
        }
        lattice.span();
    }

    /** The greatest common divisor, 0 of two 0. */
    private static long commonDivisor(long one, long other) {
        long big = Math.abs(one);
        long small = Math.abs(other);
        for (int step = 0; step < EUCLID_STEPS && small != 0; step++) {
            long rest = big % small;
            big = small;
            small = rest;
        }
        return big;
    }

    /** A part of a fraction in lowest terms; below is above 0. */
    private static long lowestPart(long above, long below, int part) {
        long told = part == 0 ? above : below;
        long shared = commonDivisor(above, below);
        return shared > 1 ? told / shared : told;
    }

    /** Gauss and Jordan's way in whole numbers: each deciding row decides one unknown, which no other row has. */
    private static final class Elimination {
        // The normal equations, the sum of squares and a base of three are the most at once.
        private static final int MOST_ROWS = 2 * MOST_UNKNOWNS + 1;
        private static final int MOST_COLUMNS = MOST_UNKNOWNS + 2;

        private final long[][] rows = new long[MOST_ROWS][MOST_COLUMNS];
        private final int[] decides = new int[MOST_ROWS];
        private int width = 0;
        private int height = 0;
        private int decided = 0;

        /** Rows of 0 for so many unknowns; what a row comes to stands behind them. */
        private void begin(int unknownsNow, int rowsNow) {
            width = Math.max(0, Math.min(MOST_COLUMNS - 1, unknownsNow));
            height = Math.max(0, Math.min(MOST_ROWS, rowsNow));
            decided = 0;
            for (int i = 0; i < height; i++) {
                for (int j = 0; j <= width; j++) {
                    rows[i][j] = 0;
                }
            }
        }

        private void eliminate() {
            for (int column = 0; column < width && decided < height; column++) {
                int row = firstRowWith(column);
                if (row >= 0) {
                    exchange(decided, row);
                    makeAboveZero(decided, column);
                    clearColumn(decided, column);
                    decides[decided] = column;
                    decided++;
                }
            }
        }

        private int firstRowWith(int column) {
            for (int row = decided; row < height; row++) {
                if (rows[row][column] != 0) {
                    return row;
                }
            }
            return -1;
        }

        private void exchange(int one, int other) {
            for (int j = 0; j <= width; j++) {
                long kept = rows[one][j];
                rows[one][j] = rows[other][j];
                rows[other][j] = kept;
            }
        }

        private void makeAboveZero(int row, int column) {
            if (rows[row][column] < 0) {
                for (int j = 0; j <= width; j++) {
                    rows[row][j] = -rows[row][j];
                }
            }
        }

        private void clearColumn(int deciding, int column) {
            long factor = rows[deciding][column];
            for (int i = 0; i < height; i++) {
                long here = rows[i][column];
                if (i != deciding && here != 0) {
                    for (int j = 0; j <= width; j++) {
                        rows[i][j] = rows[i][j] * factor - rows[deciding][j] * here;
                    }
                    divideByShared(i);
                }
            }
        }

        /** Keeps the row's numbers no greater than determinants of the rows at the start, so that no long overflows. */
        private void divideByShared(int row) {
            long shared = 0;
            for (int j = 0; j <= width; j++) {
                shared = commonDivisor(shared, rows[row][j]);
            }
            if (shared > 1) {
                for (int j = 0; j <= width; j++) {
                    rows[row][j] /= shared;
                }
            }
        }

        private boolean agrees() {
            for (int row = decided; row < height; row++) {
                if (rows[row][width] != 0) {
                    return false;
                }
            }
            return true;
        }

        private int rowDeciding(int unknown) {
            for (int row = 0; row < decided; row++) {
                if (decides[row] == unknown) {
                    return row;
                }
            }
            return -1;
        }

        private int freeUnknown(int k) {
            int passed = 0;
            for (int unknown = 0; unknown < width; unknown++) {
                if (rowDeciding(unknown) < 0) {
                    if (passed == k) {
                        return unknown;
                    }
                    passed++;
                }
            }
            return -1;
        }

        private long plainPart(int unknown, int part) {
            int row = rowDeciding(unknown);
            if (row < 0) {
                return lowestPart(0, 1, part);
            }
            return lowestPart(rows[row][width], rows[row][unknown], part);
        }

        private long directionPart(int chosen, int unknown, int part) {
            int row = rowDeciding(unknown);
            if (row < 0) {
                return lowestPart(unknown == chosen ? 1 : 0, 1, part);
            }
            return lowestPart(-rows[row][chosen], rows[row][unknown], part);
        }
    }

    /**
     * All whole x with what they come to: (A x, x), A being the equations' numbers. Its rows are brought to the
     * triangular form in which each begins further right than the one ahead; those that begin behind the
     * equations' places have A x = 0 and are the base. The target begins as (-b, 0), b being what the equations
     * should come to, and is made as small as whole multiples of the rows can make it: (A x - b, x) with the
     * least whole x, if that has A x - b = 0.
     */
    private static final class Lattice {
        private static final int PLACES = MOST_EQUATIONS + MOST_UNKNOWNS;

        private final long[][] rows = new long[MOST_UNKNOWNS][PLACES];
        private final int[] beginnings = new int[MOST_UNKNOWNS];
        private final long[] target = new long[PLACES];
        private int height = 0;

        private void begin(int unknownsNow) {
            height = Math.max(0, Math.min(MOST_UNKNOWNS, unknownsNow));
            for (int place = 0; place < PLACES; place++) {
                target[place] = 0;
                for (int row = 0; row < height; row++) {
                    rows[row][place] = place == MOST_EQUATIONS + row ? 1 : 0;
                }
            }
        }

        private void span() {
            int next = 0;
            for (int place = 0; place < PLACES && next < height; place++) {
                gather(next, place);
                if (rows[next][place] != 0) {
                    beginnings[next] = place;
                    for (int ahead = 0; ahead < next; ahead++) {
                        lessen(rows[ahead], next);
                    }
                    next++;
                }
            }
            for (int row = 0; row < height; row++) {
                lessen(target, row);
            }
        }

        /** Leaves, of the rows from first on, only the first with a number at that place, and one above 0. */
        private void gather(int first, int place) {
            for (int row = first + 1; row < height; row++) {
                divideInTurn(rows[first], rows[row], place);
            }
            if (rows[first][place] < 0) {
                negate(rows[first]);
            }
        }

        private static void negate(long[] line) {
            for (int place = 0; place < PLACES; place++) {
                line[place] = -line[place];
            }
        }

        private static void divideInTurn(long[] one, long[] other, int place) {
            for (int step = 0; step < EUCLID_STEPS && other[place] != 0; step++) {
                subtract(one, other, one[place] / other[place]);
                exchange(one, other);
            }
        }

        private static void exchange(long[] one, long[] other) {
            for (int place = 0; place < PLACES; place++) {
                long kept = one[place];
                one[place] = other[place];
                other[place] = kept;
            }
        }

        private static void subtract(long[] from, long[] line, long times) {
            for (int place = 0; place < PLACES; place++) {
                from[place] -= times * line[place];
            }
        }

        /** Brings the line's number at the row's beginning to 0 .. that less 1. */
        private void lessen(long[] line, int row) {
            long beginning = rows[row][beginnings[row]];
            if (beginning > 0) {
                subtract(line, rows[row], Math.floorDiv(line[beginnings[row]], beginning));
            }
        }

        private boolean isReached() {
            for (int e = 0; e < MOST_EQUATIONS; e++) {
                if (target[e] != 0) {
                    return false;
                }
            }
            return true;
        }

        private int members() {
            int found = 0;
            for (int row = 0; row < height; row++) {
                if (beginnings[row] >= MOST_EQUATIONS) {
                    found++;
                }
            }
            return found;
        }

        /** The members are the last rows. */
        private long member(int k, int unknown) {
            return rows[height - members() + k][MOST_EQUATIONS + unknown];
        }
    }
}
