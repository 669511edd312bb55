import java.math.BigInteger;
import java.util.ArrayList;
import java.util.List;
import java.util.Random;

/**
 * Many systems against what the document's terms say of the answers: by minors, in big numbers, or by trying all
 * numbers; by none of the ways that the class itself takes.
 */
public final class ReferenceTest {
    private static final int SYSTEMS = 30000;
    private static int wrong = 0;

    private final int n;
    private final int m;
    private final int[][] a;
    private final TriangularSystems s;
    private int rank;
    private int rankWithSums;
    private final List<Integer> free = new ArrayList<>();

    public static void main(String[] args) {
        Random random = new Random(20261115);
        for (int i = 0; i < SYSTEMS; i++) {
            int n = 1 + random.nextInt(3);
            new ReferenceTest(n, numbers(random, n, random.nextInt(4))).check(i % 10 == 0);
        }
        for (int code = 0; code < 729; code++) {
            new ReferenceTest(2, digits(code, 2, 2, 1)).check(true);
        }
        for (int code = 0; code < 6561; code++) {
            new ReferenceTest(3, digits(code, 3, 2, 1)).check(false);
        }
        new ReferenceTest(3, new int[][] {{9, 8, 9, -9}, {-9, 9, 8, 9}, {8, -9, 9, 9}}).check(true);
        new ReferenceTest(3, new int[][] {{9, 9, 8, -9}, {9, 8, 9, 9}, {0, 1, -1, 9}}).check(true);
        System.out.println(wrong == 0 ? "all systems are as due" : wrong + " answers are not as due");
        if (wrong != 0) {
            System.exit(1);
        }
    }

    /** Often small, often the greatest, often with rows that follow from others. */
    private static int[][] numbers(Random random, int n, int m) {
        int[][] rows = new int[m][n + 1];
        int kind = random.nextInt(5);
        int most = kind == 0 ? 1 : kind == 1 ? 3 : 9;
        for (int e = 0; e < m; e++) {
            for (int j = 0; j <= n; j++) {
                rows[e][j] = kind == 4 ? (random.nextBoolean() ? 9 : -9) + (random.nextInt(3) - 1) * random.nextInt(2)
                        : random.nextInt(2 * most + 1) - most;
                rows[e][j] = Math.max(-9, Math.min(9, rows[e][j]));
            }
            if (e > 0 && random.nextInt(3) == 0) {
                combine(random, rows, e, n);
            }
        }
        return rows;
    }

    private static void combine(Random random, int[][] rows, int e, int n) {
        int one = random.nextInt(5) - 2;
        int other = e > 1 ? random.nextInt(5) - 2 : 0;
        boolean sumToo = random.nextBoolean();
        for (int j = 0; j <= n; j++) {
            int sum = one * rows[0][j] + other * rows[e - 1][j];
            if ((j < n || sumToo) && Math.abs(sum) <= 9) {
                rows[e][j] = sum;
            }
        }
    }

    /** All systems of small numbers, one for each code. */
    private static int[][] digits(int code, int n, int m, int most) {
        int[][] rows = new int[m][n + 1];
        int left = code;
        for (int i = 0; i < m * (n + 1); i++) {
            rows[i / (n + 1)][i % (n + 1)] = left % (2 * most + 1) - most;
            left /= 2 * most + 1;
        }
        return rows;
    }

    private ReferenceTest(int n, int[][] a) {
        this.n = n;
        this.m = a.length;
        this.a = a;
        this.s = usedBefore(n);
        for (int e = 0; e < m; e++) {
            s.equation();
            for (int j = 0; j <= n; j++) {
                s.put(e, j, a[e][j]);
            }
        }
    }

    /** An object that was asked about other equations must answer like a new one. */
    private static TriangularSystems usedBefore(int n) {
        TriangularSystems s = new TriangularSystems(n);
        for (int e = 0; e < 3; e++) {
            s.equation();
            for (int j = 0; j <= n; j++) {
                s.put(e, j, (7 * e + 5 * j + n) % 19 - 9);
            }
        }
        s.squares(0);
        s.whole();
        s.solutions();
        s.clear();
        return s;
    }

    private void due(String what, boolean right) {
        if (!right) {
            wrong++;
            StringBuilder told = new StringBuilder(what + " is wrong for n " + n + ":");
            for (int[] row : a) {
                told.append(" ").append(java.util.Arrays.toString(row));
            }
            System.out.println(told);
        }
    }

    private void check(boolean boxToo) {
        rank = rankOf(columns(n, false));
        rankWithSums = rankOf(columns(n, true));
        for (int j = 0; j < n; j++) {
            if (rankOf(columns(j + 1, false)) == rankOf(columns(j, false))) {
                free.add(j);
            }
        }
        checkFractions();
        checkBase();
        checkWhole();
        checkNearest();
        checkFractions();
        if (boxToo) {
            checkBox(2, true);
            checkBox(5, false);
        }
        for (int e = 0; e < m; e++) {
            for (int j = 0; j <= n; j++) {
                due("at", s.at(e, j) == a[e][j]);
            }
        }
    }

    private void checkFractions() {
        due("rank", s.rank() == rank);
        due("solutions", s.solutions() == (rankWithSums > rank ? -1 : free.size()));
        for (int k = 0; k < 4; k++) {
            due("free", s.free(k) == (k < free.size() ? free.get(k) : -1));
        }
        if (rank == rankWithSums) {
            Fraction[] plain = new Fraction[n];
            for (int j = 0; j < n; j++) {
                plain[j] = new Fraction(s.plain(j, 0), s.plain(j, 1));
                due("plain in lowest terms", plain[j].lowest);
                due("plain at a free one", !free.contains(j) || plain[j].is(0));
            }
            due("plain", comesTo(plain, true));
        }
        for (int k = 0; k < free.size(); k++) {
            Fraction[] direction = new Fraction[n];
            for (int j = 0; j < n; j++) {
                direction[j] = new Fraction(s.direction(k, j, 0), s.direction(k, j, 1));
                due("direction in lowest terms", direction[j].lowest);
                due("direction at a free one", !free.contains(j) || direction[j].is(free.get(k) == j ? 1 : 0));
            }
            due("direction", comesTo(direction, false));
        }
    }

    private boolean comesTo(Fraction[] x, boolean withSums) {
        for (int e = 0; e < m; e++) {
            if (!product(e, x).is(withSums ? a[e][n] : 0)) {
                return false;
            }
        }
        return true;
    }

    private Fraction product(int e, Fraction[] x) {
        Fraction sum = new Fraction(0, 1);
        for (int j = 0; j < n; j++) {
            sum = sum.plus(x[j].times(new Fraction(a[e][j], 1)));
        }
        return sum;
    }

    private long[][] base() {
        long[][] base = new long[n - rank][n];
        for (int k = 0; k < n - rank; k++) {
            for (int j = 0; j < n; j++) {
                base[k][j] = s.base(k, j);
            }
        }
        return base;
    }

    private static int beginning(long[] row) {
        int j = 0;
        while (j < row.length && row[j] == 0) {
            j++;
        }
        return j;
    }

    /** So many independent whole vectors are a base of all whole ones just if their greatest minors share only 1. */
    private void checkBase() {
        long[][] base = base();
        int last = -1;
        for (int k = 0; k < base.length; k++) {
            for (int e = 0; e < m; e++) {
                long sum = 0;
                for (int j = 0; j < n; j++) {
                    sum += a[e][j] * base[k][j];
                }
                due("base member comes to 0", sum == 0);
            }
            int begins = beginning(base[k]);
            due("beginning further right", begins > last && begins < n);
            last = begins;
            for (int ahead = 0; ahead <= k && begins < n; ahead++) {
                long at = base[ahead][begins];
                due("beginning above 0, those ahead below it", ahead == k ? at > 0 : at >= 0 && at < base[k][begins]);
            }
        }
        due("base of all", base.length == 0 || sharedMinor(base, base.length).equals(BigInteger.ONE));
        try {
            s.base(base.length, 0);
            due("no member more", false);
        } catch (IndexOutOfBoundsException e) {
            due("thrown by the class", e.getClass() == IndexOutOfBoundsException.class);
        }
    }

    /** There are whole solutions just if the greatest minors share the same with and without the sums. */
    private void checkWhole() {
        boolean want = rank == rankWithSums && (rank == 0
                || sharedMinor(columns(n, false), rank).equals(sharedMinor(columns(n, true), rank)));
        due("whole", s.whole() == want);
        if (!want) {
            try {
                s.least(0);
                due("least where there is none", false);
            } catch (IllegalStateException e) {
                return;
            }
        }
        long[] least = new long[3];
        Fraction[] x = new Fraction[n];
        for (int j = 0; j < n; j++) {
            least[j] = s.least(j);
            x[j] = new Fraction(least[j], 1);
        }
        due("least", comesTo(x, true));
        due("least solves", s.solves((int) least[0], (int) least[1], (int) least[2]));
        for (long[] member : base()) {
            int begins = beginning(member);
            due("least at a beginning", begins < n && least[begins] >= 0 && least[begins] < member[begins]);
        }
    }

    /** What is more or less is at right angles to all columns, and the shortest numbers to all of the base. */
    private void checkNearest() {
        Fraction[] x = new Fraction[n];
        for (int j = 0; j < n; j++) {
            x[j] = new Fraction(s.nearest(j, 0), s.nearest(j, 1));
            due("nearest in lowest terms", x[j].lowest);
        }
        Fraction squares = new Fraction(0, 1);
        Fraction[] along = new Fraction[n];
        java.util.Arrays.fill(along, new Fraction(0, 1));
        for (int e = 0; e < m; e++) {
            Fraction more = product(e, x).plus(new Fraction(-a[e][n], 1));
            squares = squares.plus(more.times(more));
            for (int j = 0; j < n; j++) {
                along[j] = along[j].plus(more.times(new Fraction(a[e][j], 1)));
            }
        }
        for (int j = 0; j < n; j++) {
            due("nearest", along[j].is(0));
        }
        for (long[] member : base()) {
            Fraction sum = new Fraction(0, 1);
            for (int j = 0; j < n; j++) {
                sum = sum.plus(x[j].times(new Fraction(member[j], 1)));
            }
            due("shortest of the nearest", sum.is(0));
        }
        Fraction told = new Fraction(s.squares(0), s.squares(1));
        due("squares in lowest terms", told.lowest);
        due("squares", told.isLike(squares));
    }

    /** Each number of a small box alone; of a greater one there are more than an object's 512 calls. */
    private void checkBox(int most, boolean eachAlone) {
        int found = 0;
        for (int x = -most; x <= most; x++) {
            for (int y = n > 1 ? -most : 0; y <= (n > 1 ? most : 0); y++) {
                for (int z = n > 2 ? -most : 0; z <= (n > 2 ? most : 0); z++) {
                    boolean want = isSolution(new int[] {x, y, z});
                    due("solves", !eachAlone || s.solves(x, y, z) == want);
                    found += want ? 1 : 0;
                }
            }
        }
        due("inBox", s.inBox(most) == found);
    }

    private boolean isSolution(int[] x) {
        for (int e = 0; e < m; e++) {
            int sum = 0;
            for (int j = 0; j < n; j++) {
                sum += a[e][j] * x[j];
            }
            if (sum != a[e][n]) {
                return false;
            }
        }
        return true;
    }

    private long[][] columns(int first, boolean sumsToo) {
        long[][] rows = new long[m][first + (sumsToo ? 1 : 0)];
        for (int e = 0; e < m; e++) {
            for (int j = 0; j < first; j++) {
                rows[e][j] = a[e][j];
            }
            if (sumsToo) {
                rows[e][first] = a[e][n];
            }
        }
        return rows;
    }

    private static int rankOf(long[][] rows) {
        int size = 3;
        while (size > 0 && sharedMinor(rows, size).signum() == 0) {
            size--;
        }
        return size;
    }

    /** The greatest common divisor of all minors of that size, 0 if all are 0. */
    private static BigInteger sharedMinor(long[][] rows, int size) {
        BigInteger shared = BigInteger.ZERO;
        int width = rows.length == 0 ? 0 : rows[0].length;
        for (int some = 0; some < 1 << rows.length; some++) {
            for (int others = 0; others < 1 << width; others++) {
                if (Integer.bitCount(some) == size && Integer.bitCount(others) == size) {
                    shared = shared.gcd(determinant(rows, some, others));
                }
            }
        }
        return shared;
    }

    private static BigInteger determinant(long[][] rows, int some, int others) {
        if (some == 0) {
            return BigInteger.ONE;
        }
        int row = Integer.numberOfTrailingZeros(some);
        BigInteger sum = BigInteger.ZERO;
        boolean minus = false;
        for (int j = 0; j < rows[row].length; j++) {
            if ((others >> j & 1) == 1) {
                BigInteger part = BigInteger.valueOf(rows[row][j])
                        .multiply(determinant(rows, some & (some - 1), others & ~(1 << j)));
                sum = minus ? sum.subtract(part) : sum.add(part);
                minus = !minus;
            }
        }
        return sum;
    }

    private static final class Fraction {
        private final BigInteger above;
        private final BigInteger below;
        private final boolean lowest;

        private Fraction(long above, long below) {
            this(BigInteger.valueOf(above), BigInteger.valueOf(below));
        }

        private Fraction(BigInteger above, BigInteger below) {
            this.above = above;
            this.below = below;
            this.lowest = below.signum() > 0 && above.gcd(below).equals(BigInteger.ONE);
        }

        private Fraction plus(Fraction f) {
            return new Fraction(above.multiply(f.below).add(f.above.multiply(below)), below.multiply(f.below));
        }

        private Fraction times(Fraction f) {
            return new Fraction(above.multiply(f.above), below.multiply(f.below));
        }

        private boolean is(long number) {
            return below.signum() != 0 && above.equals(below.multiply(BigInteger.valueOf(number)));
        }

        private boolean isLike(Fraction f) {
            return above.multiply(f.below).equals(f.above.multiply(below));
        }
    }
}
