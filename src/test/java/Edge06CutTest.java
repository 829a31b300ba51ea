/** The edges of promise 6, and how cuts are numbered. */
public final class Edge06CutTest {
    public static void main(String[] args) {
        notAboveTheGreaterTop();
        twoTopsOfZero();
        otherColumnsAreFree();
        atMostFour();
        thePairHasOne();
        noSuchColumns();
        theyAreOne();
        indexBeforeMeaning();
        refusedOnesDoNotCount();
        numberedInTheOrderTold();
        numbersGoUpWhenARowIsTold();
        rowsOfKindZero();
        factorsOneAndOne();
        multipliersAreZeroWhenACutComes();
        Due.end();
    }

    private static void notAboveTheGreaterTop() {
        Due.sentence("CUTS: the sum of both is not above the greater one of their tops");
        int[][] tops = {{3, 5}, {5, 3}, {4, 4}, {1, 20}, {20, 1}, {20, 20}};
        for (int[] t : tops) {
            for (int order = 0; order < 2; order++) {
                OrderBounds x = Made.withTops(t);
                x.cut(order, 1 - order);
                int most = Math.max(t[0], t[1]);
                for (int n = 0; n <= t[0]; n++) {
                    for (int m = 0; m <= t[1]; m++) {
                        Due.is(n + " and " + m, n + m <= most ? 0 : 101, x.check(Made.packed(n, m)));
                    }
                }
                Due.is("run", 0, x.run(100000));
                Due.is("told(0)", most, x.told(0));
            }
        }
    }

    private static void twoTopsOfZero() {
        Due.sentence("CUTS: the greater one of their tops, when it is 0");
        OrderBounds x = Made.withTops(0, 0, 7);
        Due.is("cut(1, 0)", 1, x.cut(1, 0));
        Due.is("check(0)", 0, x.check(0));
        Due.is("contradiction()", -1, x.contradiction());
        Due.is("cut(0, 2)", 2, x.cut(0, 2));
        Due.is("check(7 of column 2)", 0, x.check(7 << 12));
        Due.is("run(100)", 0, x.run(100));
        Due.is("told(0)", 7, x.told(0));
    }

    private static void otherColumnsAreFree() {
        Due.sentence("CUTS are of pairs of columns");
        for (int a = 0; a < 5; a++) {
            for (int b = 0; b < 5; b++) {
                if (a != b) {
                    holdsOfAllOtherPairs(a, b);
                }
            }
        }
    }

    private static void holdsOfAllOtherPairs(int a, int b) {
        OrderBounds x = Made.withTops(2, 2, 2, 2, 2);
        x.cut(a, b);
        for (int c = 0; c < 5; c++) {
            for (int d = c + 1; d < 5; d++) {
                boolean same = c == Math.min(a, b) && d == Math.max(a, b);
                Due.is("cut(" + a + ", " + b + "), " + c + " and " + d, same ? 101 : 0,
                        x.check(2 << 6 * c | 2 << 6 * d));
            }
        }
    }

    private static void atMostFour() {
        Due.sentence("CUTS, at most 4; Promise 6: how many; meaning: there are 4");
        OrderBounds x = Made.withColumns(5);
        int[][] pairs = {{0, 1}, {4, 2}, {3, 0}, {1, 4}};
        for (int i = 0; i < 4; i++) {
            Due.is("cut", i + 1, x.cut(pairs[i][0], pairs[i][1]));
        }
        int[][] others = {{0, 2}, {0, 4}, {1, 2}, {1, 3}, {2, 3}, {3, 4}};
        for (int[] p : others) {
            Due.refused("a fifth cut", Due.MEANING, () -> x.cut(p[0], p[1]));
            Due.refused("a fifth cut", Due.MEANING, () -> x.cut(p[1], p[0]));
            Due.is("no fifth cut", 0, x.check(2 << 6 * p[0] | 2 << 6 * p[1]));
        }
        for (int[] p : pairs) {
            Due.refused("a pair that has one of 4", Due.MEANING, () -> x.cut(p[0], p[1]));
        }
        Due.refused("multiplier(4, 0)", Due.INDEX, () -> x.multiplier(4, 0));
    }

    private static void thePairHasOne() {
        Due.sentence("Promise 6, meaning: the pair has one");
        int[][] pairs = {{0, 1}, {4, 2}, {3, 0}};
        OrderBounds x = Made.withColumns(5);
        for (int told = 0; told < 3; told++) {
            x.cut(pairs[told][0], pairs[told][1]);
            for (int i = 0; i <= told; i++) {
                int a = pairs[i][0];
                int b = pairs[i][1];
                Due.refused("cut(" + a + ", " + b + ") again", Due.MEANING, () -> x.cut(a, b));
                Due.refused("cut(" + b + ", " + a + ") the other way", Due.MEANING, () -> x.cut(b, a));
            }
        }
        Due.is("a pair of columns that have some, but not this", 4, x.cut(0, 4));
    }

    private static void noSuchColumns() {
        Due.sentence("Promise 6, index: no such columns");
        for (int count = 0; count <= 5; count++) {
            OrderBounds x = Made.withColumns(count);
            for (int c : Edges.noIndex(count)) {
                Due.refused("cut(0, " + c + ") of " + count, Due.INDEX, () -> x.cut(0, c));
                Due.refused("cut(" + c + ", 0) of " + count, Due.INDEX, () -> x.cut(c, 0));
                Due.refused("cut(" + c + ", " + c + ") of " + count, Due.INDEX, () -> x.cut(c, c));
            }
        }
    }

    private static void theyAreOne() {
        Due.sentence("Promise 6, index: or they are one");
        for (int count = 1; count <= 5; count++) {
            OrderBounds x = Made.withColumns(count);
            for (int k = 0; k < count; k++) {
                int c = k;
                Due.refused("cut(" + k + ", " + k + ")", Due.INDEX, () -> x.cut(c, c));
            }
        }
    }

    private static void indexBeforeMeaning() {
        Due.sentence("Refusals: index before meaning, cut");
        OrderBounds x = Made.withColumns(5);
        Made.addCuts(x, 4);
        for (int k = 0; k < 5; k++) {
            int c = k;
            Due.refused("cut(" + k + ", " + k + ")", Due.INDEX, () -> x.cut(c, c));
        }
        for (int c : Edges.noIndex(5)) {
            Due.refused("cut(0, " + c + ")", Due.INDEX, () -> x.cut(0, c));
            Due.refused("cut(" + c + ", 0)", Due.INDEX, () -> x.cut(c, 0));
        }
    }

    private static void refusedOnesDoNotCount() {
        Due.sentence("Promise 6: a refused cut is none");
        OrderBounds x = Made.withColumns(5);
        for (int k = 0; k < 4; k++) {
            int c = k;
            Due.refused("cut(" + k + ", 5)", Due.INDEX, () -> x.cut(c, 5));
            Due.refused("cut(" + k + ", " + k + ")", Due.INDEX, () -> x.cut(c, c));
            Due.is("cut(" + k + ", " + (k + 1) + ")", k + 1, x.cut(k, k + 1));
            Due.refused("the same again", Due.MEANING, () -> x.cut(c + 1, c));
        }
    }

    private static void numberedInTheOrderTold() {
        Due.sentence("CUTS are numbered in the order in which they were told");
        OrderBounds x = Made.withColumns(5);
        int[][] pairs = {{3, 4}, {0, 1}, {4, 0}, {2, 1}};
        for (int[] p : pairs) {
            x.cut(p[0], p[1]);
        }
        for (int i = 0; i < 4; i++) {
            Due.is("cut " + i, 101 + i, x.check(2 << 6 * pairs[i][0] | 2 << 6 * pairs[i][1]));
        }
    }

    private static void numbersGoUpWhenARowIsTold() {
        Due.sentence("CUTS are numbered behind the rows that there are (their numbers go up when a row is told)");
        OrderBounds x = Made.withTops(1, 2, 3);
        x.cut(0, 1);
        x.cut(1, 2);
        for (int rows = 0; rows <= 4; rows++) {
            Due.is("the first cut behind " + rows, 101 + rows, x.check(Made.packed(1, 2, 0)));
            Due.is("the second cut behind " + rows, 102 + rows, x.check(Made.packed(0, 1, 3)));
            int behind = rows + 2;
            Due.refused("multiplier(" + behind + ", 0)", Due.INDEX, () -> x.multiplier(behind, 0));
            x.multiplier(rows, 2000);
            Due.is("the first cut's multiplier", 2 * 2 + 3, x.certificate());
            x.multiplier(rows, 0);
            x.multiplier(rows + 1, 2000);
            Due.is("the second cut's multiplier", 2 * 3 + 1, x.certificate());
            x.multiplier(rows + 1, 0);
            if (rows < 4) {
                x.row(rows % 2, 0);
            }
        }
    }

    private static void rowsOfKindZero() {
        Due.sentence("CUTS are rows of kind 0");
        OrderBounds x = Made.withColumns(2);
        x.row(1, 0);
        x.cut(0, 1);
        x.multiplier(1, 1000000);
        Due.refused("multiplier(1, -1)", Due.RANGE, () -> x.multiplier(1, -1));
        Due.is("the sum below the right side", 0, x.check(0));
    }

    private static void factorsOneAndOne() {
        Due.sentence("CUTS are rows with that right side and factors 1 and 1");
        OrderBounds x = new OrderBounds();
        for (int k = 0; k < 4; k++) {
            x.column(10, 1);
        }
        x.cut(3, 1);
        x.multiplier(0, 4000);
        // 4 times 1, and 10, 10 - 4, 10 and 10 - 4.
        Due.is("certificate()", 4 + 10 + 6 + 10 + 6, x.certificate());
    }

    private static void multipliersAreZeroWhenACutComes() {
        Due.sentence("all 0 when a row or cut comes: a cut");
        OrderBounds x = new OrderBounds();
        x.column(0, 3);
        x.column(0, 7);
        x.column(0, 1);
        x.row(0, 4);
        x.row(1, 5);
        x.cut(0, 1);
        x.multiplier(0, 1000);
        x.multiplier(1, -2000);
        x.multiplier(2, 1000);
        Due.is("certificate()", 4 - 10 + 7, x.certificate());
        x.cut(1, 2);
        Due.is("certificate() when a cut has come", 0, x.certificate());
        x.multiplier(0, 1000);
        Due.refused("a cut that is refused", Due.MEANING, () -> x.cut(2, 1));
        Due.is("certificate() behind a refused cut", 4, x.certificate());
    }
}
