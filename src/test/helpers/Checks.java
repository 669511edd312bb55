import java.util.ArrayList;
import java.util.List;

/** What the tests by hand share: systems in one line, answers and exceptions against those that are due. */
abstract class Checks {
    static final Class<IndexOutOfBoundsException> INDEX = IndexOutOfBoundsException.class;
    static final Class<IllegalStateException> STATE = IllegalStateException.class;
    static final Class<IllegalArgumentException> ARGUMENT = IllegalArgumentException.class;
    private static int wrong = 0;

    /** A call whose answer, or the exception that it throws, is looked at. */
    interface Call {
        Object answer();
    }

    static void due(String what, long got, long want) {
        if (got != want) {
            tell(what + " answered " + got + ", due is " + want);
        }
    }

    static void due(String what, boolean got, boolean want) {
        if (got != want) {
            tell(what + " answered " + got + ", due is " + want);
        }
    }

    static void same(String what, List<String> got, List<String> want) {
        if (!got.equals(want)) {
            tell(what + " answered " + got + ", due is " + want);
        }
    }

    /** The class itself is due, not one below it such as the machine throws. */
    static void thrown(String what, Class<? extends RuntimeException> want, Call call) {
        Object got = null;
        try {
            call.answer();
        } catch (RuntimeException e) {
            got = e.getClass();
        }
        if (got != want) {
            tell(what + " threw " + got + ", due is " + want);
        }
    }

    private static void tell(String text) {
        wrong++;
        System.out.println(text);
    }

    static int wrongSoFar() {
        return wrong;
    }

    static void end(String fine) {
        System.out.println(wrong == 0 ? fine : wrong + " answers are not as due");
        if (wrong != 0) {
            System.exit(1);
        }
    }

    /** A system of rows of n + 1 numbers, what the row comes to last. */
    static TriangularSystems system(int n, int[]... rows) {
        TriangularSystems s = new TriangularSystems(n);
        for (int[] row : rows) {
            int e = s.equation();
            for (int j = 0; j < row.length; j++) {
                s.put(e, j, row[j]);
            }
        }
        return s;
    }

    static int[] row(int... numbers) {
        return numbers;
    }

    /** All that can be asked of an object, so that it can be compared with another, or with itself later. */
    static List<String> all(TriangularSystems s) {
        List<String> told = new ArrayList<>();
        int n = s.count(1);
        told.add("counts " + s.count(0) + " " + n + ", rank " + s.rank() + ", solutions " + s.solutions());
        told.add("whole " + s.whole() + ", squares " + s.squares(0) + "/" + s.squares(1) + ", box " + s.inBox(4));
        for (int e = 0; e < s.count(0); e++) {
            for (int j = 0; j <= n; j++) {
                told.add("at " + e + " " + j + ": " + s.at(e, j));
            }
        }
        for (int j = 0; j < n; j++) {
            told.add("plain " + j + ": " + (s.solutions() < 0 ? "none" : s.plain(j, 0) + "/" + s.plain(j, 1)));
            told.add("least " + j + ": " + (s.whole() ? s.least(j) : "none"));
            told.add("nearest " + j + ": " + s.nearest(j, 0) + "/" + s.nearest(j, 1));
            for (int k = 0; k < n - s.rank(); k++) {
                told.add("direction " + k + " " + j + ": " + s.direction(k, j, 0) + "/" + s.direction(k, j, 1));
                told.add("base " + k + " " + j + ": " + s.base(k, j));
            }
            told.add("free " + j + ": " + s.free(j));
        }
        return told;
    }
}
