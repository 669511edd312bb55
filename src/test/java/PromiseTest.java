/** Each promise by hand: ordinary inputs, the edges that the document names, wrong inputs. */
public final class PromiseTest extends Checks {
    public static void main(String[] args) {
        promise1NewObject();
        promise2Equation();
        promise3Put();
        promise4At();
        promise5Rank();
        promise6Solutions();
        promise7Free();
        promise8Plain();
        promise9Direction();
        promise10Whole();
        promise11Base();
        promise12Least();
        promise13Nearest();
        promise14Squares();
        promise15InBox();
        promise16Solves();
        promise17Count();
        promise18Clear();
        nothingChangesByThrowing();
        exampleOfReadme();
        end("all promises are kept");
    }

    private static void promise1NewObject() {
        int[][] cases = {{Integer.MIN_VALUE, 1}, {-1, 1}, {0, 1}, {1, 1}, {2, 2}, {3, 3}, {4, 3},
            {Integer.MAX_VALUE, 3}};
        for (int[] c : cases) {
            TriangularSystems s = new TriangularSystems(c[0]);
            due("1: unknowns of " + c[0], s.count(1), c[1]);
            due("1: equations of " + c[0], s.count(0), 0);
            due("1: solutions of " + c[0], s.solutions(), c[1]);
        }
    }

    private static void promise2Equation() {
        TriangularSystems s = new TriangularSystems(2);
        for (int e = 0; e < 3; e++) {
            due("2: number", s.equation(), e);
            for (int j = 0; j <= 2; j++) {
                due("2: all 0", s.at(e, j), 0);
            }
        }
        thrown("2: a fourth", STATE, () -> s.equation());
        due("2: still 3", s.count(0), 3);
    }

    private static void promise3Put() {
        for (int n = 1; n <= 3; n++) {
            int last = n;
            TriangularSystems s = system(n, new int[n + 1]);
            for (int j = 0; j <= n; j++) {
                due("3: the same 0", s.put(0, j, 0) ? 1 : 0, 0);
                due("3: 9", s.put(0, j, 9) ? 1 : 0, 1);
                due("3: 9 again", s.put(0, j, 9) ? 1 : 0, 0);
                due("3: -9", s.put(0, j, -9) ? 1 : 0, 1);
                int unknown = j;
                thrown("3: 10", ARGUMENT, () -> s.put(0, unknown, 10) ? 1 : 0);
                thrown("3: -10", ARGUMENT, () -> s.put(0, unknown, -10) ? 1 : 0);
                thrown("3: least int", ARGUMENT, () -> s.put(0, unknown, Integer.MIN_VALUE) ? 1 : 0);
                due("3: unchanged", s.at(0, j), -9);
            }
            thrown("3: unknown n + 1", INDEX, () -> s.put(0, last + 1, 1) ? 1 : 0);
            thrown("3: unknown -1", INDEX, () -> s.put(0, -1, 1) ? 1 : 0);
            thrown("3: equation 1", INDEX, () -> s.put(1, 0, 1) ? 1 : 0);
            thrown("3: equation -1", INDEX, () -> s.put(-1, 0, 1) ? 1 : 0);
            thrown("3: greatest equation", INDEX, () -> s.put(Integer.MAX_VALUE, 0, 1) ? 1 : 0);
            thrown("3: index ahead of argument", INDEX, () -> s.put(1, 0, 10) ? 1 : 0);
        }
    }

    private static void promise4At() {
        TriangularSystems s = system(3, row(1, -2, 3, -4), row(5, -6, 7, -8));
        due("4: first", s.at(0, 0), 1);
        due("4: second", s.at(0, 1), -2);
        due("4: comes to", s.at(0, 3), -4);
        due("4: of another", s.at(1, 2), 7);
        thrown("4: equation 2", INDEX, () -> s.at(2, 0));
        thrown("4: equation -1", INDEX, () -> s.at(-1, 0));
        thrown("4: unknown 4", INDEX, () -> s.at(0, 4));
        thrown("4: unknown -1", INDEX, () -> s.at(0, -1));
        TriangularSystems one = system(1, row(4, 8));
        due("4: one unknown comes to", one.at(0, 1), 8);
        thrown("4: one unknown, 2", INDEX, () -> one.at(0, 2));
        thrown("4: no equation", INDEX, () -> new TriangularSystems(2).at(0, 0));
    }

    private static void promise5Rank() {
        due("5: none", new TriangularSystems(3).rank(), 0);
        due("5: 0 alone", system(2, row(0, 0, 5)).rank(), 0);
        due("5: one", system(3, row(0, 0, 7, 1)).rank(), 1);
        due("5: multiples that come to others", system(2, row(1, 2, 3), row(2, 4, 5), row(-3, -6, 1)).rank(), 1);
        due("5: sum of two", system(3, row(1, 2, 3, 0), row(4, 5, 6, 0), row(5, 7, 9, 1)).rank(), 2);
        due("5: all", system(3, row(0, 0, 1, 0), row(0, 1, 0, 0), row(1, 0, 0, 0)).rank(), 3);
        due("5: more equations than unknowns", system(2, row(1, 0, 0), row(0, 1, 0), row(1, 1, 0)).rank(), 2);
    }

    private static void promise6Solutions() {
        due("6: no equation", new TriangularSystems(2).solutions(), 2);
        due("6: 0 comes to 0", system(1, row(0, 0)).solutions(), 1);
        due("6: 0 comes to 1", system(1, row(0, 1)).solutions(), -1);
        due("6: one", system(2, row(1, 1, 3), row(1, -1, 2)).solutions(), 0);
        due("6: one free", system(3, row(1, 1, 0, 3), row(1, -1, 0, 2)).solutions(), 1);
        due("6: two free", system(3, row(2, 4, 6, 8)).solutions(), 2);
        due("6: parallel", system(2, row(1, 2, 3), row(2, 4, 7)).solutions(), -1);
        due("6: the same twice", system(2, row(1, 2, 3), row(2, 4, 6)).solutions(), 1);
        due("6: third against two", system(2, row(1, 0, 1), row(0, 1, 1), row(1, 1, 3)).solutions(), -1);
    }

    private static void promise7Free() {
        TriangularSystems s = system(3, row(0, 3, 6, 1));
        due("7: column of 0", s.free(0), 0);
        due("7: behind", s.free(1), 2);
        due("7: no more", s.free(2), -1);
        due("7: -1", s.free(-1), -1);
        due("7: least", s.free(Integer.MIN_VALUE), -1);
        due("7: greatest", s.free(Integer.MAX_VALUE), -1);
        due("7: later column free, not the first", system(2, row(4, 2, 1)).free(0), 1);
        due("7: without a solution too", system(2, row(1, 2, 3), row(2, 4, 7)).free(0), 1);
        due("7: middle", system(3, row(1, 2, 0, 0), row(1, 2, 1, 0)).free(0), 1);
    }

    private static void promise8Plain() {
        TriangularSystems s = system(3, row(0, 4, 2, -6));
        due("8: free above", s.plain(0, 0), 0);
        due("8: free below", s.plain(0, 1), 1);
        due("8: above", s.plain(1, 0), -3);
        due("8: below", s.plain(1, 1), 2);
        TriangularSystems minus = system(1, row(-4, 6));
        due("8: below stays above 0", minus.plain(0, 1), 2);
        due("8: the sign is above", minus.plain(0, 0), -3);
        TriangularSystems two = system(2, row(2, 3, 1), row(4, -5, 3));
        due("8: x above", two.plain(0, 0), 7);
        due("8: x below", two.plain(0, 1), 11);
        due("8: y above", two.plain(1, 0), -1);
        due("8: y below", two.plain(1, 1), 11);
        thrown("8: unknown 3", INDEX, () -> s.plain(3, 0));
        thrown("8: unknown -1", INDEX, () -> s.plain(-1, 0));
        thrown("8: part 2", ARGUMENT, () -> s.plain(0, 2));
        thrown("8: part -1", ARGUMENT, () -> s.plain(0, -1));
        thrown("8: index ahead of argument", INDEX, () -> s.plain(3, 2));
        TriangularSystems none = system(1, row(0, 1));
        thrown("8: none", STATE, () -> none.plain(0, 0));
        thrown("8: index ahead of state", INDEX, () -> none.plain(1, 0));
        thrown("8: state ahead of argument", STATE, () -> none.plain(0, 2));
    }

    private static void promise9Direction() {
        TriangularSystems s = system(3, row(-4, 2, 6, 5));
        long[][] want = {{1, 2, 1, 1, 0, 1}, {3, 2, 0, 1, 1, 1}};
        for (int k = 0; k < 2; k++) {
            for (int j = 0; j < 3; j++) {
                due("9: above", s.direction(k, j, 0), want[k][2 * j]);
                due("9: below", s.direction(k, j, 1), want[k][2 * j + 1]);
            }
        }
        due("9: without a solution too", system(2, row(1, 2, 3), row(2, 4, 7)).direction(0, 0, 0), -2);
        thrown("9: direction 2", INDEX, () -> s.direction(2, 0, 0));
        thrown("9: direction -1", INDEX, () -> s.direction(-1, 0, 0));
        thrown("9: unknown 3", INDEX, () -> s.direction(0, 3, 0));
        thrown("9: unknown -1", INDEX, () -> s.direction(0, -1, 0));
        thrown("9: part 2", ARGUMENT, () -> s.direction(0, 0, 2));
        thrown("9: part -1", ARGUMENT, () -> s.direction(0, 0, -1));
        thrown("9: index ahead of argument", INDEX, () -> s.direction(2, 0, 2));
        thrown("9: no direction", INDEX, () -> system(1, row(1, 1)).direction(0, 0, 0));
    }

    private static void promise10Whole() {
        due("10: no equation", new TriangularSystems(1).whole() ? 1 : 0, 1);
        due("10: even to odd", system(2, row(2, 4, 3)).whole() ? 1 : 0, 0);
        due("10: 6 and 9 to 3", system(2, row(6, 9, 3)).whole() ? 1 : 0, 1);
        due("10: no solution at all", system(1, row(0, 1)).whole() ? 1 : 0, 0);
        due("10: each alone, not both", system(2, row(1, 1, 0), row(1, -1, 1)).whole() ? 1 : 0, 0);
        due("10: both", system(2, row(1, 1, 1), row(1, -1, 1)).whole() ? 1 : 0, 1);
    }

    private static void promise11Base() {
        TriangularSystems s = system(3, row(2, 3, 5, 1));
        long[][] want = {{1, 1, -1}, {0, 5, -3}};
        for (int k = 0; k < 2; k++) {
            for (int j = 0; j < 3; j++) {
                due("11: base(" + k + ", " + j + ")", s.base(k, j), want[k][j]);
            }
        }
        TriangularSystems even = system(2, row(4, 6, 1));
        due("11: begins above 0", even.base(0, 0), 3);
        due("11: without a whole solution too", even.base(0, 1), -2);
        TriangularSystems none = new TriangularSystems(2);
        due("11: unit", none.base(0, 0) * 1000 + none.base(0, 1) * 100 + none.base(1, 0) * 10 + none.base(1, 1), 1001);
        thrown("11: member 2", INDEX, () -> s.base(2, 0));
        thrown("11: member -1", INDEX, () -> s.base(-1, 0));
        thrown("11: greatest member", INDEX, () -> s.base(Integer.MAX_VALUE, 0));
        thrown("11: unknown 3", INDEX, () -> s.base(0, 3));
        thrown("11: unknown -1", INDEX, () -> s.base(0, -1));
        thrown("11: no member", INDEX, () -> system(1, row(1, 1)).base(0, 0));
    }

    private static void promise12Least() {
        TriangularSystems s = system(3, row(2, 3, 5, 1));
        due("12: x", s.least(0), 0);
        due("12: y", s.least(1), 2);
        due("12: z", s.least(2), -1);
        due("12: only one", system(1, row(-3, 9)).least(0), -3);
        due("12: no equation", new TriangularSystems(1).least(0), 0);
        TriangularSystems half = system(1, row(2, 1));
        thrown("12: none", STATE, () -> half.least(0));
        thrown("12: index ahead of state", INDEX, () -> half.least(1));
        thrown("12: unknown -1", INDEX, () -> s.least(-1));
        thrown("12: unknown 3", INDEX, () -> s.least(3));
    }

    private static void promise13Nearest() {
        TriangularSystems mean = system(1, row(1, 3), row(1, 4), row(1, 6));
        due("13: the mean above", mean.nearest(0, 0), 13);
        due("13: the mean below", mean.nearest(0, 1), 3);
        TriangularSystems shortest = system(2, row(1, 2, 3), row(2, 4, -1));
        due("13: shortest x above", shortest.nearest(0, 0), 1);
        due("13: shortest x below", shortest.nearest(0, 1), 25);
        due("13: shortest y above", shortest.nearest(1, 0), 2);
        due("13: shortest y below", shortest.nearest(1, 1), 25);
        due("13: a solution that is there", system(2, row(1, 1, 4)).nearest(1, 0), 2);
        due("13: no equation above", new TriangularSystems(2).nearest(1, 0), 0);
        due("13: no equation below", new TriangularSystems(2).nearest(1, 1), 1);
        thrown("13: unknown 1", INDEX, () -> mean.nearest(1, 0));
        thrown("13: unknown -1", INDEX, () -> mean.nearest(-1, 0));
        thrown("13: part 2", ARGUMENT, () -> mean.nearest(0, 2));
        thrown("13: part -1", ARGUMENT, () -> mean.nearest(0, -1));
        thrown("13: index ahead of argument", INDEX, () -> mean.nearest(1, 2));
    }

    private static void promise14Squares() {
        TriangularSystems mean = system(1, row(1, 3), row(1, 4), row(1, 6));
        due("14: above", mean.squares(0), 14);
        due("14: below", mean.squares(1), 3);
        due("14: nothing to be done", system(2, row(0, 0, 9), row(0, 0, -9), row(0, 0, 9)).squares(0), 243);
        TriangularSystems solved = system(2, row(2, 3, 1), row(4, -5, 3));
        due("14: solved above", solved.squares(0), 0);
        due("14: solved below", solved.squares(1), 1);
        due("14: no equation above", new TriangularSystems(3).squares(0), 0);
        due("14: no equation below", new TriangularSystems(3).squares(1), 1);
        thrown("14: part 2", ARGUMENT, () -> mean.squares(2));
        thrown("14: part -1", ARGUMENT, () -> mean.squares(-1));
    }

    private static void promise15InBox() {
        for (int n = 1; n <= 3; n++) {
            TriangularSystems all = new TriangularSystems(n);
            due("15: all of 12", all.inBox(12), n == 1 ? 25 : n == 2 ? 625 : 15625);
            due("15: all of 0", all.inBox(0), 1);
            thrown("15: 13", ARGUMENT, () -> all.inBox(13));
            thrown("15: -1", ARGUMENT, () -> all.inBox(-1));
            thrown("15: least", ARGUMENT, () -> all.inBox(Integer.MIN_VALUE));
        }
        due("15: x + y = 1", system(2, row(1, 1, 1)).inBox(2), 4);
        due("15: x = 3 in 2", system(1, row(1, 3)).inBox(2), 0);
        due("15: x = 3 in 3", system(1, row(1, 3)).inBox(3), 1);
        due("15: x = -3 in 3", system(1, row(-1, 3)).inBox(3), 1);
        due("15: 2x = 1", system(1, row(2, 1)).inBox(12), 0);
        due("15: two against each other", system(1, row(1, 1), row(1, 2)).inBox(12), 0);
        due("15: x + y + z = 0", system(3, row(1, 1, 1, 0)).inBox(1), 7);
        due("15: only the last", system(3, row(0, 0, 1, 1)).inBox(1), 9);
    }

    private static void promise16Solves() {
        TriangularSystems s = system(3, row(1, 2, 3, 6), row(1, -1, 0, 0));
        due("16: yes", s.solves(1, 1, 1) ? 1 : 0, 1);
        due("16: the first alone", s.solves(6, 0, 0) ? 1 : 0, 0);
        due("16: the second alone", s.solves(2, 2, 1) ? 1 : 0, 0);
        due("16: what is too much is not looked at", system(1, row(2, 4)).solves(2, 9, -9) ? 1 : 0, 1);
        due("16: nor the third of two", system(2, row(2, 1, 4)).solves(2, 0, 5) ? 1 : 0, 1);
        due("16: no equation", new TriangularSystems(3).solves(7, 8, 9) ? 1 : 0, 1);
        due("16: no overflow", system(2, row(8, 8, 0)).solves(1 << 30, 1 << 30, 0) ? 1 : 0, 0);
        due("16: greatest", system(2, row(9, -9, 0)).solves(Integer.MAX_VALUE, Integer.MAX_VALUE, 0) ? 1 : 0, 1);
    }

    private static void promise17Count() {
        TriangularSystems s = system(2, row(1, 1, 1), row(1, 1, 1));
        due("17: equations", s.count(0), 2);
        due("17: unknowns", s.count(1), 2);
        due("17: 2", s.count(2), -1);
        due("17: -1", s.count(-1), -1);
        due("17: greatest", s.count(Integer.MAX_VALUE), -1);
    }

    private static void promise18Clear() {
        TriangularSystems s = system(2, row(1, 2, 3), row(4, 5, 6), row(7, 8, 9));
        s.clear();
        due("18: equations", s.count(0), 0);
        due("18: unknowns stay", s.count(1), 2);
        due("18: rank", s.rank(), 0);
        due("18: solutions", s.solutions(), 2);
        due("18: squares", s.squares(0), 0);
        due("18: box", s.inBox(1), 9);
        due("18: whole", s.whole() ? 1 : 0, 1);
        due("18: solves", s.solves(0, 0, 0) ? 1 : 0, 1);
        thrown("18: at", INDEX, () -> s.at(0, 0));
        due("18: anew", s.equation(), 0);
        for (int j = 0; j <= 2; j++) {
            due("18: all 0 anew", s.at(0, j), 0);
        }
    }

    private static void nothingChangesByThrowing() {
        TriangularSystems s = system(1, row(2, 1), row(4, 2), row(0, 0));
        thrown("full", STATE, () -> s.equation());
        thrown("put", ARGUMENT, () -> s.put(0, 0, 10) ? 1 : 0);
        thrown("put", INDEX, () -> s.put(3, 0, 1) ? 1 : 0);
        thrown("least", STATE, () -> s.least(0));
        thrown("box", ARGUMENT, () -> s.inBox(13));
        int[] want = {2, 1, 4, 2, 0, 0};
        for (int i = 0; i < 6; i++) {
            due("unchanged", s.at(i / 2, i % 2), want[i]);
        }
        due("unchanged plain", s.plain(0, 1), 2);
    }

    /** README.md tells these calls with these answers. */
    private static void exampleOfReadme() {
        TriangularSystems s = system(2, row(4, 6, 8));
        due("README: solutions", s.solutions(), 1);
        due("README: free", s.free(0), 1);
        due("README: plain above", s.plain(0, 0), 2);
        due("README: plain below", s.plain(0, 1), 1);
        due("README: direction above", s.direction(0, 0, 0), -3);
        due("README: direction below", s.direction(0, 0, 1), 2);
        due("README: whole", s.whole(), true);
        due("README: least x", s.least(0), 2);
        due("README: least y", s.least(1), 0);
        due("README: base x", s.base(0, 0), 3);
        due("README: base y", s.base(0, 1), -2);
        due("README: nearest above", s.nearest(0, 0), 8);
        due("README: nearest below", s.nearest(0, 1), 13);
        due("README: box", s.inBox(5), 4);
        exampleWithoutSolution(system(2, row(4, 6, 8), row(2, 3, 9)));
    }

    private static void exampleWithoutSolution(TriangularSystems s) {
        due("README: rank", s.rank(), 1);
        due("README: none", s.solutions(), -1);
        thrown("README: plain", STATE, () -> s.plain(0, 0));
        thrown("README: least", STATE, () -> s.least(0));
        due("README: nearest of none above", s.nearest(1, 0), 15);
        due("README: nearest of none below", s.nearest(1, 1), 13);
        due("README: squares above", s.squares(0), 20);
        due("README: squares below", s.squares(1), 1);
    }
}
