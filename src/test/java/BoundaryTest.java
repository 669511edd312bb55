import java.util.List;
import java.util.function.Function;
import java.util.function.Supplier;

/** Each sentence of the document that names a boundary case has a test of its own here, told by its words. */
public final class BoundaryTest extends Checks {
    private static final int LEAST_INT = Integer.MIN_VALUE;
    private static final int GREATEST_INT = Integer.MAX_VALUE;
    private static int sentences = 0;
    private static int broken = 0;

    public static void main(String[] args) {
        wholeDocument();
        terms();
        baseTerms();
        exceptions();
        promises1To4();
        promises5To9();
        promises10To14();
        promises15To18();
        System.out.println(sentences + " sentences, " + broken + " broken");
        end("all boundary cases are as due");
    }

    private static void sentence(String words, Runnable test) {
        int before = wrongSoFar();
        test.run();
        sentences++;
        if (wrongSoFar() != before) {
            broken++;
            System.out.println("-- broken: " + words);
        }
    }

    private static void wholeDocument() {
        sentence("An object is used for at most 512 calls", BoundaryTest::last512thCall);
    }

    private static void terms() {
        sentence("UNKNOWNS 0 .. n - 1, n being 1 to 3", BoundaryTest::firstAndLastUnknown);
        sentence("RANK: of no EQUATIONS", BoundaryTest::rankOfNone);
        sentence("RANK: not all by 0, has 0 for all UNKNOWNS", BoundaryTest::rankOfZeros);
        sentence("RANK: (but for what they come to)", BoundaryTest::rankLeavesSumsOut);
        sentence("RANK: the greatest number of them", BoundaryTest::rankIsTheGreatestNumber);
        sentence("FREE: some sum of multiples of the columns ahead of it", BoundaryTest::freeWithNoColumnAhead);
        sentence("FREE: is its column", BoundaryTest::freeBehindOthers);
        sentence("The PLAIN solution has 0 for all FREE UNKNOWNS", BoundaryTest::plainAtFreeOnes);
        sentence("DIRECTION k has 1 for the k-th FREE one, 0 for other FREE ones", BoundaryTest::directionAtFreeOnes);
        sentence("DIRECTION: with 0 in place of what they come to", BoundaryTest::directionWithoutSums);
        sentence("NEAREST: of several the ones with the least sum of squares", BoundaryTest::shortestOfSeveral);
        sentence("FRACTIONS are told in lowest terms", BoundaryTest::lowestTerms);
        sentence("FRACTIONS: below above 0", BoundaryTest::belowIsAboveZero);
        sentence("FRACTIONS: whole numbers and 0 have 1 below", BoundaryTest::wholeNumbersHaveOneBelow);
    }

    private static void baseTerms() {
        sentence("BASE: as few as can be (n less RANK)", BoundaryTest::baseHasAsFewAsCanBe);
        sentence("BASE: with 0 in place of what they come to", BoundaryTest::baseWithoutSums);
        sentence("BASE: all are their sums of whole multiples", BoundaryTest::baseIsOfAll);
        sentence("BASE: each begins further right than the one ahead", BoundaryTest::baseBeginsFurtherRight);
        sentence("BASE: with a number above 0 (its BEGINNING)", BoundaryTest::baseBeginsAboveZero);
        sentence("BASE: those ahead of it have 0 .. BEGINNING - 1", BoundaryTest::baseAheadOfABeginning);
        sentence("LEAST: at the BEGINNING 0 .. that less 1", BoundaryTest::leastAtABeginning);
        sentence("LEAST: where the BASE has no member", BoundaryTest::leastWithoutBase);
    }

    private static void exceptions() {
        sentence("IndexOutOfBoundsException: no such EQUATION", BoundaryTest::noSuchEquation);
        sentence("IndexOutOfBoundsException: no such UNKNOWN", BoundaryTest::noSuchUnknown);
        sentence("IndexOutOfBoundsException: no such DIRECTION", BoundaryTest::noSuchDirection);
        sentence("IndexOutOfBoundsException: no such member of the BASE", BoundaryTest::noSuchMember);
        sentence("Of several the one that stands first: put", BoundaryTest::firstOfSeveralInPut);
        sentence("Of several the one that stands first: plain", BoundaryTest::firstOfSeveralInPlain);
        sentence("Of several the one that stands first: direction", BoundaryTest::firstOfSeveralInDirection);
        sentence("Of several the one that stands first: least", BoundaryTest::firstOfSeveralInLeast);
        sentence("Of several the one that stands first: nearest", BoundaryTest::firstOfSeveralInNearest);
        sentence("nothing changes", BoundaryTest::nothingChanges);
    }

    private static void promises1To4() {
        sentence("1: 1 if it is below 1", BoundaryTest::tooFewUnknowns);
        sentence("1: 3 if it is above 3", BoundaryTest::tooManyUnknowns);
        sentence("1: No EQUATIONS", BoundaryTest::newObjectIsEmpty);
        sentence("2: One EQUATION more, all 0", BoundaryTest::newEquationIsAllZero);
        sentence("2: its number", BoundaryTest::numberOfAnEquation);
        sentence("2: IllegalStateException: there are 3", BoundaryTest::fourthEquation);
        sentence("3: or (unknown n) what it comes to", BoundaryTest::putWhatItComesTo);
        sentence("3: whether it is another one", BoundaryTest::putTellsAnother);
        sentence("3: IllegalArgumentException: it isn't -9 .. 9", BoundaryTest::putTooSmallOrLarge);
        sentence("4: That number", BoundaryTest::atEachPlace);
    }

    private static void promises5To9() {
        sentence("5: RANK", BoundaryTest::rankAfterEachChange);
        sentence("6: -1 none", BoundaryTest::noSolutions);
        sentence("6: 0 one", BoundaryTest::oneSolution);
        sentence("6: else how many UNKNOWNS are FREE", BoundaryTest::manySolutions);
        sentence("7: -1 if there is none such", BoundaryTest::noSuchFreeUnknown);
        sentence("8: IllegalStateException: there is none", BoundaryTest::noPlainSolution);
        sentence("8: IllegalArgumentException: another part", BoundaryTest::anotherPartOfPlain);
        sentence("9: IllegalArgumentException: another part", BoundaryTest::anotherPartOfDirection);
        sentence("9: answers where there is no solution", BoundaryTest::directionWithoutSolution);
    }

    private static void promises10To14() {
        sentence("10: Whether there are WHOLE solutions", BoundaryTest::wholeOrNot);
        sentence("11: answers where there is no WHOLE solution", BoundaryTest::baseWithoutWholeSolution);
        sentence("12: IllegalStateException: there is none", BoundaryTest::noLeast);
        sentence("13: of no EQUATIONS, of EQUATIONS all 0", BoundaryTest::nearestOfNothing);
        sentence("13: where there is a solution", BoundaryTest::nearestIsTheSolution);
        sentence("13: IllegalArgumentException: another part", BoundaryTest::anotherPartOfNearest);
        sentence("14: The least sum of squares, none and the greatest", BoundaryTest::leastAndGreatestSquares);
        sentence("14: IllegalArgumentException: another part", BoundaryTest::anotherPartOfSquares);
    }

    private static void promises15To18() {
        sentence("15: How many WHOLE solutions", BoundaryTest::onlyWholeOnesInTheBox);
        sentence("15: all numbers from -most to most", BoundaryTest::edgesOfTheBox);
        sentence("15: the least and the greatest box", BoundaryTest::leastAndGreatestBox);
        sentence("15: IllegalArgumentException: most isn't 0 .. 12", BoundaryTest::noSuchBox);
        sentence("16: (as many as there are UNKNOWNS)", BoundaryTest::solvesLooksAtAsMany);
        sentence("16: a solution of no EQUATIONS", BoundaryTest::solvesNothing);
        sentence("16: a solution of all EQUATIONS", BoundaryTest::solvesEachOfThree);
        sentence("16: a solution, with numbers that wrap around", BoundaryTest::solvesWithoutWrapAround);
        sentence("17: EQUATIONS (what 0), UNKNOWNS (1)", BoundaryTest::countsFromEmptyToFull);
        sentence("17: -1 for another what", BoundaryTest::countOfAnother);
        sentence("18: No EQUATIONS", BoundaryTest::clearedIsLikeNew);
    }

    private static void fraction(String what, long above, long below, long wantAbove, long wantBelow) {
        due(what + " above", above, wantAbove);
        due(what + " below", below, wantBelow);
    }

    private static void plain(TriangularSystems s, int unknown, long above, long below) {
        fraction("plain " + unknown, s.plain(unknown, 0), s.plain(unknown, 1), above, below);
    }

    private static void direction(TriangularSystems s, int k, int unknown, long above, long below) {
        String what = "direction " + k + " " + unknown;
        fraction(what, s.direction(k, unknown, 0), s.direction(k, unknown, 1), above, below);
    }

    private static void nearest(TriangularSystems s, int unknown, long above, long below) {
        fraction("nearest " + unknown, s.nearest(unknown, 0), s.nearest(unknown, 1), above, below);
    }

    private static void squares(TriangularSystems s, long above, long below) {
        fraction("squares", s.squares(0), s.squares(1), above, below);
    }

    /** All members, and that there is none behind them. */
    private static void base(TriangularSystems s, long[]... want) {
        for (int k = 0; k < want.length; k++) {
            for (int j = 0; j < want[k].length; j++) {
                due("base " + k + " " + j, s.base(k, j), want[k][j]);
            }
        }
        thrown("base " + want.length, INDEX, () -> s.base(want.length, 0));
    }

    private static void least(TriangularSystems s, long... want) {
        for (int j = 0; j < want.length; j++) {
            due("least " + j, s.least(j), want[j]);
        }
    }

    private static long[] member(long... numbers) {
        return numbers;
    }

    private static void last512thCall() {
        TriangularSystems s = new TriangularSystems(2);
        int calls = 0;
        for (int round = 0; round < 127; round++) {
            due("equation", s.equation(), round % 3);
            due("put", s.put(round % 3, round % 2, 1 + round % 9), true);
            due("squares", s.squares(0), 0);
            if (round % 3 == 2) {
                s.clear();
            } else {
                s.whole();
            }
            calls += 4;
        }
        s.put(0, 2, 9);
        s.put(0, 0, -6);
        s.put(0, 1, 0);
        due("calls before the last one", calls + 3, 511);
        due("512th", s.plain(0, 0), -3);
    }

    private static void firstAndLastUnknown() {
        for (int n = 1; n <= 3; n++) {
            TriangularSystems s = system(n, new int[n + 1]);
            s.put(0, n - 1, 2);
            s.put(0, n, 3);
            plain(s, n - 1, 3, 2);
            if (n > 1) {
                plain(s, 0, 0, 1);
            }
            due("all others free", s.solutions(), n - 1);
        }
    }

    private static void rankOfNone() {
        for (int n = 1; n <= 3; n++) {
            due("rank of none", new TriangularSystems(n).rank(), 0);
        }
    }

    private static void rankOfZeros() {
        due("0 alone", system(1, row(0, 0)).rank(), 0);
        due("three of 0", system(3, new int[4], new int[4], new int[4]).rank(), 0);
        due("0 ahead of another", system(2, row(0, 0, 0), row(0, 3, 0)).rank(), 1);
        due("0 behind another", system(2, row(3, 0, 0), row(0, 0, 0)).rank(), 1);
        due("0 between others", system(2, row(3, 0, 0), row(0, 0, 0), row(0, 3, 0)).rank(), 2);
    }

    private static void rankLeavesSumsOut() {
        due("0 comes to 9", system(3, row(0, 0, 0, 9)).rank(), 0);
        due("the same comes to another", system(2, row(1, 2, 3), row(1, 2, 4)).rank(), 1);
        due("a multiple comes to another", system(1, row(9, 9), row(-9, 9), row(1, 0)).rank(), 1);
    }

    private static void rankIsTheGreatestNumber() {
        due("one unknown, three equations", system(1, row(1, 0), row(2, 0), row(3, 0)).rank(), 1);
        due("two unknowns, three equations", system(2, row(1, 0, 0), row(1, 1, 0), row(0, 1, 0)).rank(), 2);
        due("each two alone, not three", system(3, row(1, -1, 0, 0), row(0, 1, -1, 0), row(-1, 0, 1, 0)).rank(), 2);
        due("three", system(3, row(1, 1, 0, 0), row(0, 1, 1, 0), row(1, 0, 1, 0)).rank(), 3);
        due("three by a little", system(3, row(9, 9, 9, 0), row(9, 9, 8, 0), row(9, 8, 9, 0)).rank(), 3);
    }

    private static void freeWithNoColumnAhead() {
        due("column of 0", system(1, row(0, 0)).free(0), 0);
        due("another column", system(1, row(1, 0)).free(0), -1);
        due("not 0 in the last equation alone", system(1, row(0, 0), row(0, 0), row(-1, 0)).free(0), -1);
        TriangularSystems none = new TriangularSystems(3);
        for (int k = 0; k < 3; k++) {
            due("no equation", none.free(k), k);
        }
    }

    private static void freeBehindOthers() {
        due("a multiple", system(2, row(2, 3, 0), row(4, 6, 0)).free(0), 1);
        due("no multiple", system(2, row(2, 3, 0), row(4, 5, 0)).free(0), -1);
        due("0 behind one", system(3, row(1, 0, 5, 0), row(0, 0, 5, 0)).free(0), 1);
        TriangularSystems s = system(3, row(1, 0, 1, 0), row(0, 1, 1, 0), row(1, 1, 2, 0));
        due("a sum of two", s.free(0), 2);
        due("only that", s.free(1), -1);
        due("0 ahead of one", system(2, row(0, 7, 0)).free(0), 0);
    }

    private static void plainAtFreeOnes() {
        TriangularSystems none = new TriangularSystems(3);
        for (int j = 0; j < 3; j++) {
            plain(none, j, 0, 1);
        }
        TriangularSystems s = system(3, row(0, 4, 9, 6));
        plain(s, 0, 0, 1);
        plain(s, 1, 3, 2);
        plain(s, 2, 0, 1);
    }

    private static void directionAtFreeOnes() {
        TriangularSystems none = new TriangularSystems(3);
        for (int k = 0; k < 3; k++) {
            for (int j = 0; j < 3; j++) {
                direction(none, k, j, k == j ? 1 : 0, 1);
            }
        }
        TriangularSystems s = system(3, row(0, 4, 6, 0));
        direction(s, 0, 0, 1, 1);
        direction(s, 0, 1, 0, 1);
        direction(s, 0, 2, 0, 1);
        direction(s, 1, 0, 0, 1);
        direction(s, 1, 1, -3, 2);
        direction(s, 1, 2, 1, 1);
    }

    private static void directionWithoutSums() {
        for (int sum = -9; sum <= 9; sum++) {
            direction(system(2, row(2, 3, sum)), 0, 0, -3, 2);
        }
    }

    private static void shortestOfSeveral() {
        TriangularSystems two = system(2, row(1, 1, 1));
        nearest(two, 0, 1, 2);
        nearest(two, 1, 1, 2);
        TriangularSystems three = system(3, row(1, 2, -2, 9));
        nearest(three, 0, 1, 1);
        nearest(three, 1, 2, 1);
        nearest(three, 2, -2, 1);
        TriangularSystems apart = system(2, row(0, 1, 1), row(0, 1, 2));
        nearest(apart, 0, 0, 1);
        nearest(apart, 1, 3, 2);
    }

    private static void lowestTerms() {
        plain(system(1, row(6, 9)), 0, 3, 2);
        plain(system(1, row(9, 6)), 0, 2, 3);
        direction(system(2, row(9, 6, 0)), 0, 0, -2, 3);
        nearest(system(1, row(6, 9)), 0, 3, 2);
        nearest(system(1, row(2, 4), row(2, 6)), 0, 5, 2);
        squares(system(1, row(1, 1), row(1, 2)), 1, 2);
        squares(system(1, row(3, 3), row(3, 6)), 9, 2);
    }

    private static void belowIsAboveZero() {
        plain(system(1, row(-6, 9)), 0, -3, 2);
        plain(system(1, row(-6, -9)), 0, 3, 2);
        plain(system(1, row(6, -9)), 0, -3, 2);
        direction(system(2, row(-9, 6, 0)), 0, 0, 2, 3);
        direction(system(2, row(-9, -6, 0)), 0, 0, -2, 3);
        nearest(system(1, row(-6, 9)), 0, -3, 2);
        nearest(system(1, row(-6, -9)), 0, 3, 2);
        squares(system(1, row(-1, 1), row(-1, 2)), 1, 2);
    }

    private static void wholeNumbersHaveOneBelow() {
        plain(system(1, row(-9, 0)), 0, 0, 1);
        plain(system(1, row(-3, 9)), 0, -3, 1);
        direction(system(2, row(7, 0, 0)), 0, 0, 0, 1);
        direction(system(2, row(3, 9, 0)), 0, 0, -3, 1);
        nearest(system(1, row(-9, 0)), 0, 0, 1);
        nearest(system(1, row(-3, 9)), 0, -3, 1);
        squares(system(1, row(-3, 9)), 0, 1);
        squares(system(1, row(1, 0), row(1, 2)), 2, 1);
    }

    private static void baseHasAsFewAsCanBe() {
        base(system(1, row(5, 0)));
        base(system(2, row(1, 2, 0), row(2, 1, 0)));
        base(system(3, row(1, 0, 0, 0), row(0, 0, 1, 0)), member(0, 1, 0));
        base(new TriangularSystems(1), member(1));
        base(new TriangularSystems(2), member(1, 0), member(0, 1));
        base(new TriangularSystems(3), member(1, 0, 0), member(0, 1, 0), member(0, 0, 1));
        base(system(3, new int[4], new int[4]), member(1, 0, 0), member(0, 1, 0), member(0, 0, 1));
    }

    private static void baseWithoutSums() {
        for (int sum = -9; sum <= 9; sum++) {
            base(system(2, row(4, 6, sum)), member(3, -2));
        }
    }

    private static void baseIsOfAll() {
        base(system(2, row(2, 4, 0)), member(2, -1));
        base(system(2, row(9, 9, 0)), member(1, -1));
        base(system(2, row(9, 8, 0)), member(8, -9));
        base(system(3, row(1, 2, 4, 0)), member(2, 1, -1), member(0, 2, -1));
        base(system(3, row(2, 0, 1, 0), row(0, 2, 1, 0)), member(1, 1, -2));
    }

    private static void baseBeginsFurtherRight() {
        base(system(2, row(0, 5, 0)), member(1, 0));
        base(system(2, row(5, 0, 0)), member(0, 1));
        base(system(3, row(0, 2, 3, 0)), member(1, 0, 0), member(0, 3, -2));
        base(system(3, row(7, 0, 0, 0)), member(0, 1, 0), member(0, 0, 1));
        base(system(3, row(1, 1, 0, 0)), member(1, -1, 0), member(0, 0, 1));
        base(system(3, row(1, 0, 0, 0), row(1, 1, 0, 0)), member(0, 0, 1));
    }

    private static void baseBeginsAboveZero() {
        base(system(2, row(2, 3, 0)), member(3, -2));
        base(system(2, row(-2, 3, 0)), member(3, 2));
        base(system(2, row(2, -3, 0)), member(3, 2));
        base(system(2, row(-2, -3, 0)), member(3, -2));
        base(system(3, row(1, 0, 0, 0), row(0, 9, -7, 0)), member(0, 7, 9));
    }

    private static void baseAheadOfABeginning() {
        base(system(3, row(3, 2, 3, 0)), member(1, 0, -1), member(0, 3, -2));
        base(system(3, row(1, 2, 3, 0)), member(1, 1, -1), member(0, 3, -2));
        base(system(3, row(2, 2, 3, 0)), member(1, 2, -2), member(0, 3, -2));
        base(system(3, row(-1, 2, 3, 0)), member(1, 2, -1), member(0, 3, -2));
    }

    private static void leastAtABeginning() {
        least(system(2, row(4, 6, 6)), 0, 1);
        least(system(2, row(4, 6, 8)), 2, 0);
        least(system(2, row(4, 6, -8)), 1, -2);
        least(system(3, row(2, 2, 3, 3)), 0, 0, 1);
        least(system(3, row(2, 2, 3, 1)), 0, 2, -1);
        least(system(3, row(2, 2, 3, -9)), 0, 0, -3);
        least(system(3, row(1, 2, 4, 9)), 1, 0, 2);
        least(system(3, row(1, 2, 4, -9)), 1, 1, -3);
        least(new TriangularSystems(3), 0, 0, 0);
    }

    private static void leastWithoutBase() {
        least(system(1, row(1, -9)), -9);
        least(system(1, row(-1, -9)), 9);
        least(system(2, row(1, 1, 1), row(1, -1, 9)), 5, -4);
        least(system(3, row(1, 0, 0, -5)), -5, 0, 0);
    }

    private static void noSuchEquation() {
        for (int held = 0; held <= 3; held++) {
            TriangularSystems s = new TriangularSystems(2);
            for (int e = 0; e < held; e++) {
                s.equation();
            }
            for (int e : new int[] {LEAST_INT, -1, held, 3, GREATEST_INT}) {
                thrown("at " + e + " of " + held, INDEX, () -> s.at(e, 0));
                thrown("put " + e + " of " + held, INDEX, () -> s.put(e, 0, 1));
            }
        }
    }

    private static void noSuchUnknown() {
        for (int n = 1; n <= 3; n++) {
            TriangularSystems s = system(n, new int[n + 1]);
            for (int j : new int[] {LEAST_INT, -1, n + 1, GREATEST_INT}) {
                thrown("at " + j + " of " + n, INDEX, () -> s.at(0, j));
                thrown("put " + j + " of " + n, INDEX, () -> s.put(0, j, 1));
            }
            for (int j : new int[] {LEAST_INT, -1, n, n + 1, GREATEST_INT}) {
                thrown("plain " + j + " of " + n, INDEX, () -> s.plain(j, 0));
                thrown("direction " + j + " of " + n, INDEX, () -> s.direction(0, j, 0));
                thrown("base " + j + " of " + n, INDEX, () -> s.base(0, j));
                thrown("least " + j + " of " + n, INDEX, () -> s.least(j));
                thrown("nearest " + j + " of " + n, INDEX, () -> s.nearest(j, 0));
            }
        }
    }

    /** Systems with none, one, two and three directions, and as many members of the base. */
    private static TriangularSystems withMembers(int members) {
        int[][] rows = {row(1, 0, 0, 1), row(0, 1, 0, 1), row(0, 0, 1, 1)};
        return system(3, java.util.Arrays.copyOf(rows, 3 - members));
    }

    private static void noSuchDirection() {
        for (int members = 0; members <= 3; members++) {
            TriangularSystems s = withMembers(members);
            if (members > 0) {
                direction(s, members - 1, 2, 1, 1);
            }
            for (int k : new int[] {LEAST_INT, -1, members, 3, GREATEST_INT}) {
                thrown("direction " + k + " of " + members, INDEX, () -> s.direction(k, 0, 0));
                thrown("below of direction " + k + " of " + members, INDEX, () -> s.direction(k, 2, 1));
            }
        }
    }

    private static void noSuchMember() {
        for (int members = 0; members <= 3; members++) {
            TriangularSystems s = withMembers(members);
            if (members > 0) {
                due("last member", s.base(members - 1, 2), 1);
            }
            for (int k : new int[] {LEAST_INT, -1, members, 3, GREATEST_INT}) {
                thrown("base " + k + " of " + members, INDEX, () -> s.base(k, 0));
            }
        }
    }

    private static void firstOfSeveralInPut() {
        TriangularSystems s = system(2, row(1, 2, 3));
        thrown("equation and number", INDEX, () -> s.put(1, 0, 10));
        thrown("equation and least number", INDEX, () -> s.put(-1, 0, LEAST_INT));
        thrown("unknown and number", INDEX, () -> s.put(0, 3, 10));
        thrown("unknown and least number", INDEX, () -> s.put(0, -1, LEAST_INT));
        thrown("number alone", ARGUMENT, () -> s.put(0, 2, 10));
    }

    private static void firstOfSeveralInPlain() {
        TriangularSystems none = system(2, row(0, 0, 1));
        thrown("all three", INDEX, () -> none.plain(2, 2));
        thrown("unknown and none", INDEX, () -> none.plain(-1, 0));
        thrown("none and part", STATE, () -> none.plain(0, 2));
        thrown("none and part below 0", STATE, () -> none.plain(1, -1));
        TriangularSystems some = system(2, row(1, 0, 1));
        thrown("unknown and part", INDEX, () -> some.plain(2, 2));
        thrown("part alone", ARGUMENT, () -> some.plain(1, 2));
    }

    private static void firstOfSeveralInDirection() {
        TriangularSystems s = system(2, row(1, 1, 1));
        thrown("direction and part", INDEX, () -> s.direction(1, 0, 2));
        thrown("unknown and part", INDEX, () -> s.direction(0, 2, 2));
        thrown("both and part", INDEX, () -> s.direction(-1, -1, -1));
        thrown("part alone", ARGUMENT, () -> s.direction(0, 1, 2));
    }

    private static void firstOfSeveralInLeast() {
        TriangularSystems half = system(1, row(2, 1));
        thrown("unknown and none", INDEX, () -> half.least(1));
        thrown("unknown below 0 and none", INDEX, () -> half.least(-1));
        thrown("none alone", STATE, () -> half.least(0));
    }

    private static void firstOfSeveralInNearest() {
        TriangularSystems s = system(1, row(2, 1));
        thrown("unknown and part", INDEX, () -> s.nearest(1, 2));
        thrown("unknown below 0 and part", INDEX, () -> s.nearest(-1, -1));
        thrown("part alone", ARGUMENT, () -> s.nearest(0, 2));
    }

    private static void nothingChanges() {
        Supplier<TriangularSystems> full = () -> system(2, row(2, 4, 6), row(-1, -2, 3), row(0, 0, 0));
        refusePlaces(full);
        refuseOthers(full);
        unchanged("fourth", STATE, full, s -> s.equation());
        unchanged("plain", STATE, full, s -> s.plain(0, 0));
        unchanged("least", STATE, full, s -> s.least(0));
        Supplier<TriangularSystems> half = () -> system(3, row(2, 4, 6, 5));
        refusePlaces(half);
        refuseOthers(half);
        unchanged("plain", ARGUMENT, half, s -> s.plain(0, 2));
        unchanged("least", STATE, half, s -> s.least(2));
        refuseOthers(() -> new TriangularSystems(1));
        unchanged("put in an empty one", INDEX, () -> new TriangularSystems(1), s -> s.put(0, 0, 7));
    }

    private static void refusePlaces(Supplier<TriangularSystems> making) {
        unchanged("put", INDEX, making, s -> s.put(s.count(0), 0, 7));
        unchanged("put", INDEX, making, s -> s.put(0, s.count(1) + 1, 7));
        unchanged("put", ARGUMENT, making, s -> s.put(0, 0, 10));
        unchanged("put", ARGUMENT, making, s -> s.put(0, s.count(1), -10));
    }

    private static void refuseOthers(Supplier<TriangularSystems> making) {
        unchanged("at", INDEX, making, s -> s.at(-1, 0));
        unchanged("plain", INDEX, making, s -> s.plain(-1, 0));
        unchanged("direction", INDEX, making, s -> s.direction(-1, 0, 0));
        unchanged("direction", ARGUMENT, making, s -> s.direction(0, 0, 2));
        unchanged("base", INDEX, making, s -> s.base(3, 0));
        unchanged("least", INDEX, making, s -> s.least(3));
        unchanged("nearest", INDEX, making, s -> s.nearest(3, 0));
        unchanged("nearest", ARGUMENT, making, s -> s.nearest(0, -1));
        unchanged("squares", ARGUMENT, making, s -> s.squares(2));
        unchanged("inBox", ARGUMENT, making, s -> s.inBox(13));
    }

    /** A new object each time, as one is used for at most 512 calls. */
    private static void unchanged(String what, Class<? extends RuntimeException> want,
            Supplier<TriangularSystems> making, Function<TriangularSystems, Object> call) {
        TriangularSystems s = making.get();
        List<String> before = all(s);
        thrown(what, want, () -> call.apply(s));
        same("after " + what, all(s), before);
    }

    private static void tooFewUnknowns() {
        for (int n : new int[] {LEAST_INT, -3, -1, 0}) {
            due("unknowns of " + n, new TriangularSystems(n).count(1), 1);
            same("all of " + n, all(new TriangularSystems(n)), all(new TriangularSystems(1)));
        }
        due("just 1", new TriangularSystems(1).count(1), 1);
        due("just 2", new TriangularSystems(2).count(1), 2);
    }

    private static void tooManyUnknowns() {
        for (int n : new int[] {4, 5, 100, GREATEST_INT}) {
            due("unknowns of " + n, new TriangularSystems(n).count(1), 3);
            same("all of " + n, all(new TriangularSystems(n)), all(new TriangularSystems(3)));
        }
        due("just 3", new TriangularSystems(3).count(1), 3);
    }

    private static void newObjectIsEmpty() {
        for (int n = 0; n <= 4; n++) {
            TriangularSystems s = new TriangularSystems(n);
            due("equations", s.count(0), 0);
            thrown("at", INDEX, () -> s.at(0, 0));
            due("first", s.equation(), 0);
        }
    }

    private static void newEquationIsAllZero() {
        for (int n = 1; n <= 3; n++) {
            TriangularSystems s = new TriangularSystems(n);
            for (int round = 0; round < 2; round++) {
                for (int e = 0; e < 3; e++) {
                    s.equation();
                    for (int j = 0; j <= n; j++) {
                        due("at " + e + " " + j, s.at(e, j), 0);
                        s.put(e, j, 9 - e - j);
                    }
                }
                s.clear();
            }
        }
    }

    private static void numberOfAnEquation() {
        TriangularSystems s = new TriangularSystems(3);
        for (int e = 0; e < 3; e++) {
            due("number", s.equation(), e);
            due("count", s.count(0), e + 1);
        }
        s.clear();
        due("number anew", s.equation(), 0);
    }

    private static void fourthEquation() {
        for (int n = 1; n <= 3; n++) {
            TriangularSystems s = new TriangularSystems(n);
            for (int e = 0; e < 3; e++) {
                s.equation();
            }
            thrown("fourth", STATE, () -> s.equation());
            thrown("fourth again", STATE, () -> s.equation());
            due("still 3", s.count(0), 3);
            s.clear();
            due("after clear", s.equation(), 0);
        }
    }

    private static void putWhatItComesTo() {
        for (int n = 1; n <= 3; n++) {
            TriangularSystems s = system(n, new int[n + 1], new int[n + 1], new int[n + 1]);
            for (int e = 0; e < 3; e++) {
                int unknown = n;
                due("none yet", s.solutions(), e == 0 ? n : -1);
                s.put(e, unknown, -9);
                due("at", s.at(e, unknown), -9);
                squares(s, 81 * (e + 1), 1);
                thrown("behind it", INDEX, () -> s.put(0, unknown + 1, 1));
            }
        }
    }

    private static void putTellsAnother() {
        for (int n = 1; n <= 3; n++) {
            TriangularSystems s = system(n, new int[n + 1], new int[n + 1]);
            for (int j = 0; j <= n; j++) {
                due("0 for 0", s.put(1, j, 0), false);
                due("1 for 0", s.put(1, j, 1), true);
                due("1 for 1", s.put(1, j, 1), false);
                due("-1 for 1", s.put(1, j, -1), true);
                due("0 for -1", s.put(1, j, 0), true);
                due("not in the other equation", s.at(0, j), 0);
            }
        }
    }

    private static void putTooSmallOrLarge() {
        for (int n = 1; n <= 3; n++) {
            TriangularSystems s = system(n, new int[n + 1]);
            for (int j = 0; j <= n; j++) {
                int unknown = j;
                due("9", s.put(0, j, 9), true);
                due("-9", s.put(0, j, -9), true);
                for (int v : new int[] {LEAST_INT, -100, -10, 10, 100, GREATEST_INT}) {
                    thrown("put " + v, ARGUMENT, () -> s.put(0, unknown, v));
                }
                due("still -9", s.at(0, j), -9);
            }
        }
    }

    private static void atEachPlace() {
        for (int n = 1; n <= 3; n++) {
            TriangularSystems s = system(n, new int[n + 1], new int[n + 1], new int[n + 1]);
            for (int place = 0; place < 3 * (n + 1); place++) {
                s.put(place / (n + 1), place % (n + 1), place - 4);
            }
            for (int place = 0; place < 3 * (n + 1); place++) {
                due("at", s.at(place / (n + 1), place % (n + 1)), place - 4);
            }
        }
    }

    private static void rankAfterEachChange() {
        TriangularSystems s = new TriangularSystems(3);
        for (int e = 0; e < 3; e++) {
            s.equation();
            due("another of 0", s.rank(), e);
            s.put(e, 2 - e, -9);
            due("another", s.rank(), e + 1);
        }
        s.put(1, 1, 0);
        due("0 again", s.rank(), 2);
        s.put(1, 3, 9);
        due("and comes to 9", s.rank(), 2);
    }

    private static void noSolutions() {
        due("0 comes to 1", system(1, row(0, 1)).solutions(), -1);
        due("0 comes to -1", system(3, row(0, 0, 0, -1)).solutions(), -1);
        due("the last against the first", system(1, row(1, 1), row(0, 0), row(1, 2)).solutions(), -1);
        due("parallel", system(2, row(9, 9, 9), row(9, 9, 8)).solutions(), -1);
        due("three by twos", system(3, row(1, -1, 0, 1), row(0, 1, -1, 1), row(-1, 0, 1, 1)).solutions(), -1);
    }

    private static void oneSolution() {
        due("one unknown", system(1, row(-9, 9)).solutions(), 0);
        due("with what follows", system(1, row(1, 2), row(2, 4), row(0, 0)).solutions(), 0);
        due("two unknowns", system(2, row(9, 8, 9), row(8, 7, -9)).solutions(), 0);
        due("three unknowns", system(3, row(1, 1, 0, 1), row(0, 1, 1, 1), row(1, 0, 1, 1)).solutions(), 0);
    }

    private static void manySolutions() {
        for (int n = 1; n <= 3; n++) {
            due("no equation", new TriangularSystems(n).solutions(), n);
            due("0 comes to 0", system(n, new int[n + 1]).solutions(), n);
        }
        due("one of three", system(3, row(0, 0, 1, 9)).solutions(), 2);
        due("two of three", system(3, row(0, 0, 1, 9), row(1, 0, 0, 9)).solutions(), 1);
        due("one, three times", system(3, row(1, 2, 3, 4), row(2, 4, 6, 8), row(-1, -2, -3, -4)).solutions(), 2);
    }

    private static void noSuchFreeUnknown() {
        for (int members = 0; members <= 3; members++) {
            TriangularSystems s = withMembers(members);
            if (members > 0) {
                due("last", s.free(members - 1), 2);
            }
            for (int k : new int[] {LEAST_INT, -2, -1, members, 3, GREATEST_INT}) {
                due("free " + k + " of " + members, s.free(k), -1);
            }
        }
    }

    private static void noPlainSolution() {
        TriangularSystems s = system(2, row(1, 1, 1), row(1, 1, 2));
        for (int j = 0; j < 2; j++) {
            int unknown = j;
            thrown("above", STATE, () -> s.plain(unknown, 0));
            thrown("below", STATE, () -> s.plain(unknown, 1));
        }
        s.put(1, 2, 1);
        plain(s, 0, 1, 1);
        plain(system(1, row(2, 1)), 0, 1, 2);
    }

    private static void anotherPartOfPlain() {
        TriangularSystems s = system(2, row(2, 3, 5));
        for (int part : new int[] {LEAST_INT, -1, 2, GREATEST_INT}) {
            thrown("decided " + part, ARGUMENT, () -> s.plain(0, part));
            thrown("free " + part, ARGUMENT, () -> s.plain(1, part));
        }
        plain(s, 0, 5, 2);
    }

    private static void anotherPartOfDirection() {
        TriangularSystems s = system(2, row(2, 3, 5));
        for (int part : new int[] {LEAST_INT, -1, 2, GREATEST_INT}) {
            thrown("decided " + part, ARGUMENT, () -> s.direction(0, 0, part));
            thrown("free " + part, ARGUMENT, () -> s.direction(0, 1, part));
        }
        direction(s, 0, 0, -3, 2);
    }

    private static void directionWithoutSolution() {
        TriangularSystems s = system(2, row(2, 3, 5), row(4, 6, 9));
        due("none", s.solutions(), -1);
        due("free", s.free(0), 1);
        direction(s, 0, 0, -3, 2);
        direction(s, 0, 1, 1, 1);
    }

    private static void wholeOrNot() {
        due("no equation", new TriangularSystems(3).whole(), true);
        due("0 comes to 0", system(2, row(0, 0, 0)).whole(), true);
        due("0 comes to 1", system(2, row(0, 0, 1)).whole(), false);
        due("a third", system(1, row(3, 1)).whole(), false);
        due("three thirds", system(1, row(3, 3)).whole(), true);
        due("minus three thirds", system(1, row(3, -3)).whole(), true);
        due("6 and 9 to 2", system(2, row(6, 9, 2)).whole(), false);
        due("6 and 9 to -3", system(2, row(6, 9, -3)).whole(), true);
        due("each alone, not both", system(2, row(1, 1, 0), row(1, -1, 1)).whole(), false);
        due("in fractions alone", system(3, row(2, 2, 0, 1), row(0, 2, 2, 1)).whole(), false);
        due("the plain one in fractions, others whole", system(2, row(2, 3, 1)).whole(), true);
    }

    private static void baseWithoutWholeSolution() {
        TriangularSystems half = system(2, row(4, 6, 1));
        due("not whole", half.whole(), false);
        base(half, member(3, -2));
        TriangularSystems none = system(2, row(4, 6, 1), row(4, 6, 2));
        due("none", none.solutions(), -1);
        base(none, member(3, -2));
    }

    private static void noLeast() {
        TriangularSystems none = system(2, row(0, 0, 1));
        TriangularSystems half = system(2, row(2, 4, 1));
        for (int j = 0; j < 2; j++) {
            int unknown = j;
            thrown("no solution", STATE, () -> none.least(unknown));
            thrown("none but in fractions", STATE, () -> half.least(unknown));
        }
        half.put(0, 2, 2);
        least(half, 1, 0);
    }

    private static void nearestOfNothing() {
        for (int n = 1; n <= 3; n++) {
            TriangularSystems zeros = system(n, new int[n + 1], new int[n + 1]);
            zeros.put(1, n, -9);
            for (int j = 0; j < n; j++) {
                nearest(new TriangularSystems(n), j, 0, 1);
                nearest(zeros, j, 0, 1);
            }
            squares(zeros, 81, 1);
        }
    }

    private static void nearestIsTheSolution() {
        TriangularSystems one = system(2, row(2, 3, 1), row(4, -5, 3));
        nearest(one, 0, 7, 11);
        nearest(one, 1, -1, 11);
        squares(one, 0, 1);
        TriangularSystems against = system(2, row(1, 0, 1), row(0, 1, 1), row(1, 1, 3));
        nearest(against, 0, 4, 3);
        nearest(against, 1, 4, 3);
        squares(against, 1, 3);
    }

    private static void anotherPartOfNearest() {
        TriangularSystems s = system(1, row(2, 5));
        for (int part : new int[] {LEAST_INT, -1, 2, GREATEST_INT}) {
            thrown("nearest " + part, ARGUMENT, () -> s.nearest(0, part));
            thrown("of no equation " + part, ARGUMENT, () -> new TriangularSystems(1).nearest(0, part));
        }
        nearest(s, 0, 5, 2);
    }

    private static void leastAndGreatestSquares() {
        for (int n = 1; n <= 3; n++) {
            squares(new TriangularSystems(n), 0, 1);
            TriangularSystems s = system(n, new int[n + 1], new int[n + 1], new int[n + 1]);
            squares(s, 0, 1);
            for (int e = 0; e < 3; e++) {
                s.put(e, n, e == 1 ? 9 : -9);
            }
            squares(s, 243, 1);
        }
        squares(system(3, row(9, 0, 0, 9), row(0, 9, 0, -9), row(0, 0, 9, 9)), 0, 1);
        squares(system(1, row(0, 0), row(1, 9), row(1, -9)), 162, 1);
    }

    private static void anotherPartOfSquares() {
        TriangularSystems s = system(1, row(1, 1), row(1, 2));
        for (int part : new int[] {LEAST_INT, -1, 2, GREATEST_INT}) {
            thrown("squares " + part, ARGUMENT, () -> s.squares(part));
            thrown("of no equation " + part, ARGUMENT, () -> new TriangularSystems(3).squares(part));
        }
        squares(s, 1, 2);
    }

    private static void onlyWholeOnesInTheBox() {
        due("a half", system(1, row(2, 1)).inBox(12), 0);
        due("minus a half", system(1, row(-2, 1)).inBox(12), 0);
        due("4 halves", system(1, row(2, 4)).inBox(2), 1);
        due("-4 halves", system(1, row(-2, 4)).inBox(2), 1);
        due("4 halves in 1", system(1, row(2, 4)).inBox(1), 0);
        due("one against another", system(1, row(1, 1), row(1, 2)).inBox(12), 0);
        due("2 x + 4 y = 1", system(2, row(2, 4, 1)).inBox(12), 0);
        due("2 x + 3 y = 1 in 1", system(2, row(2, 3, 1)).inBox(1), 1);
        due("2 x + 3 y = 1 in 2", system(2, row(2, 3, 1)).inBox(2), 2);
        due("2 x + 2 y + 3 z = 1 in 1", system(3, row(2, 2, 3, 1)).inBox(1), 3);
    }

    private static void edgesOfTheBox() {
        for (int n = 1; n <= 3; n++) {
            for (int j = 0; j < n; j++) {
                for (int most = 0; most <= 9; most++) {
                    int others = n == 1 ? 1 : n == 2 ? 2 * most + 1 : (2 * most + 1) * (2 * most + 1);
                    TriangularSystems s = system(n, new int[n + 1]);
                    s.put(0, j, 1);
                    s.put(0, n, most);
                    due("the greatest", s.inBox(most), others);
                    due("too great", most == 0 ? 0 : s.inBox(most - 1), 0);
                    s.put(0, n, -most);
                    due("the least", s.inBox(most), others);
                    due("too small", most == 0 ? 0 : s.inBox(most - 1), 0);
                }
            }
        }
        TriangularSystems twelve = system(3, row(1, 0, 0, 0), row(0, 1, 0, 3), row(0, -1, 1, 9));
        due("12 in 12", twelve.inBox(12), 1);
        due("12 in 11", twelve.inBox(11), 0);
    }

    private static void leastAndGreatestBox() {
        int all = 25;
        for (int n = 1; n <= 3; n++) {
            due("all in 12", new TriangularSystems(n).inBox(12), all);
            due("all in 0", new TriangularSystems(n).inBox(0), 1);
            due("all in 1", new TriangularSystems(n).inBox(1), n == 1 ? 3 : n == 2 ? 9 : 27);
            all *= 25;
            TriangularSystems none = system(n, new int[n + 1]);
            none.put(0, n, 1);
            due("none in 12", none.inBox(12), 0);
        }
        due("only 0 in 12", system(3, row(9, 0, 0, 0), row(0, 9, 0, 0), row(0, 0, 9, 0)).inBox(12), 1);
        due("not 0 in 0", system(3, row(9, 9, 9, 9)).inBox(0), 0);
    }

    private static void noSuchBox() {
        for (int n = 1; n <= 3; n++) {
            TriangularSystems empty = new TriangularSystems(n);
            TriangularSystems none = system(n, new int[n + 1]);
            none.put(0, n, 1);
            for (int most : new int[] {LEAST_INT, -12, -1, 13, GREATEST_INT}) {
                thrown("box " + most, ARGUMENT, () -> empty.inBox(most));
                thrown("box without solutions " + most, ARGUMENT, () -> none.inBox(most));
            }
        }
    }

    private static void solvesLooksAtAsMany() {
        TriangularSystems one = system(1, row(2, 4));
        due("first of one", one.solves(2, GREATEST_INT, LEAST_INT), true);
        due("not the first of one", one.solves(4, 2, 2), false);
        TriangularSystems two = system(2, row(2, 1, 4));
        due("two of two", two.solves(1, 2, LEAST_INT), true);
        due("the second of two", two.solves(2, 4, 0), false);
        TriangularSystems three = system(3, row(2, 1, 3, 4));
        due("three of three", three.solves(0, 1, 1), true);
        due("the third of three", three.solves(2, 0, 1), false);
    }

    private static void solvesNothing() {
        for (int n = 1; n <= 3; n++) {
            TriangularSystems s = new TriangularSystems(n);
            due("no equation", s.solves(LEAST_INT, 0, GREATEST_INT), true);
            s.equation();
            due("0 comes to 0", s.solves(LEAST_INT, 7, GREATEST_INT), true);
            s.put(0, n, -1);
            due("0 comes to -1", s.solves(0, -1, 0), false);
        }
    }

    private static void solvesEachOfThree() {
        TriangularSystems s = system(3, row(1, 0, 0, 9), row(0, -1, 0, 9), row(0, 0, 9, 0));
        due("all three", s.solves(9, -9, 0), true);
        due("not the first", s.solves(8, -9, 0), false);
        due("not the second", s.solves(9, 9, 0), false);
        due("not the third", s.solves(9, -9, 1), false);
        s.clear();
        due("none of those before", s.solves(8, 9, 1), true);
        s.equation();
        s.put(0, 0, 1);
        due("only the first anew", s.solves(0, 9, 1), true);
        due("not the first anew", s.solves(1, 9, 1), false);
    }

    private static void solvesWithoutWrapAround() {
        due("8 times 2^29", system(1, row(8, 0)).solves(1 << 29, 0, 0), false);
        due("2 times the least", system(1, row(2, 0)).solves(LEAST_INT, 0, 0), false);
        due("3 times what wraps to 1", system(1, row(3, 1)).solves(-1431655765, 0, 0), false);
        due("a sum that wraps to -2", system(2, row(1, 1, -2)).solves(GREATEST_INT, GREATEST_INT, 0), false);
        due("a sum that wraps to 0", system(2, row(1, 1, 0)).solves(LEAST_INT, LEAST_INT, 0), false);
        TriangularSystems s = system(3, row(9, -9, 0, 0), row(0, 1, 1, -1));
        due("greatest and least", s.solves(GREATEST_INT, GREATEST_INT, LEAST_INT), true);
        due("greatest and one more", s.solves(GREATEST_INT - 1, GREATEST_INT, LEAST_INT), false);
    }

    private static void countsFromEmptyToFull() {
        for (int n = 1; n <= 3; n++) {
            TriangularSystems s = new TriangularSystems(n);
            for (int e = 0; e <= 3; e++) {
                due("equations", s.count(0), e);
                due("unknowns", s.count(1), n);
                if (e < 3) {
                    s.equation();
                }
            }
        }
    }

    private static void countOfAnother() {
        TriangularSystems s = system(3, row(1, 2, 3, 4), row(1, 2, 3, 4));
        for (int what : new int[] {LEAST_INT, -2, -1, 2, 3, GREATEST_INT}) {
            due("count " + what, s.count(what), -1);
        }
    }

    private static void clearedIsLikeNew() {
        for (int n = 1; n <= 3; n++) {
            List<String> empty = all(new TriangularSystems(n));
            for (int held = 0; held <= 3; held++) {
                TriangularSystems s = new TriangularSystems(n);
                for (int e = 0; e < held; e++) {
                    s.equation();
                    s.put(e, e % n, 9);
                    s.put(e, n, 9 - e);
                }
                s.clear();
                same("cleared of " + held, all(s), empty);
                s.clear();
                same("cleared again", all(s), empty);
                thrown("at", INDEX, () -> s.at(0, 0));
                due("anew", s.equation(), 0);
                due("none of those before", s.solves(5, 5, 5), true);
                same("a first one anew", all(s), all(system(n, new int[n + 1])));
            }
        }
    }
}
