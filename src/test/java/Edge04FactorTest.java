/** The edges of promise 4. */
public final class Edge04FactorTest {
    public static void main(String[] args) {
        factorsInside();
        factorsOutside();
        everyRowAndColumn();
        noSuchRow();
        cutsAreNone();
        noSuchColumn();
        indexBeforeRange();
        toldAgain();
        multipliersStay();
        greatestSums();
        Due.end();
    }

    private static void factorsInside() {
        Due.sentence("FACTORS of columns (-10 .. 10)");
        for (int v : Edges.inside(-10, 10)) {
            OrderBounds x = Made.oneByOne(20, 0, 3 * v, v);
            x.row(1, 3 * v);
            x.factor(1, 0, v);
            Due.is("3 times " + v, 0, x.check(3));
            x.right(0, 3 * v - 1);
            Due.is("3 times " + v + " is above", 101, x.check(3));
            x.right(0, 10000);
            x.right(1, 3 * v + 1);
            Due.is("3 times " + v + " is below", 102, x.check(3));
        }
    }

    private static void factorsOutside() {
        Due.sentence("Promise 4, range: FACTORS of columns (-10 .. 10)");
        OrderBounds x = Made.withColumns(5);
        Made.addRows(x, 4);
        for (int v : Edges.outside(-10, 10)) {
            Due.refused("factor(0, 0, " + v + ")", Due.RANGE, () -> x.factor(0, 0, v));
            Due.refused("factor(3, 4, " + v + ")", Due.RANGE, () -> x.factor(3, 4, v));
        }
    }

    private static void everyRowAndColumn() {
        Due.sentence("Promise 4: A factor, of just that row and column");
        for (int i = 0; i < 4; i++) {
            for (int k = 0; k < 5; k++) {
                OrderBounds x = Made.withColumns(5);
                for (int j = 0; j < 4; j++) {
                    x.row(0, 0);
                }
                x.factor(i, k, 1);
                for (int c = 0; c < 5; c++) {
                    Due.is("factor(" + i + ", " + k + ", 1), column " + c, c == k ? 101 + i : 0, x.check(1 << 6 * c));
                }
            }
        }
    }

    private static void noSuchRow() {
        Due.sentence("Promise 4, index: no such row");
        for (int count = 0; count <= 4; count++) {
            OrderBounds x = Made.withColumns(1);
            Made.addRows(x, count);
            for (int r : Edges.noIndex(count)) {
                Due.refused("factor(" + r + ", 0, 0) of " + count, Due.INDEX, () -> x.factor(r, 0, 0));
            }
        }
    }

    private static void cutsAreNone() {
        Due.sentence("Promise 4, index: cuts are none");
        for (int count = 0; count <= 4; count++) {
            OrderBounds x = Made.withColumns(5);
            Made.addRows(x, count);
            Made.addCuts(x, 4);
            for (int i = 0; i < 4; i++) {
                int cut = count + i;
                Due.refused("factor(" + cut + ", 0, 1) of " + count, Due.INDEX, () -> x.factor(cut, 0, 1));
            }
        }
    }

    private static void noSuchColumn() {
        Due.sentence("Promise 4, index: no such column");
        for (int count = 0; count <= 5; count++) {
            OrderBounds x = Made.withColumns(count);
            x.row(0, 0);
            for (int c : Edges.noIndex(count)) {
                Due.refused("factor(0, " + c + ", 0) of " + count, Due.INDEX, () -> x.factor(0, c, 0));
            }
        }
    }

    private static void indexBeforeRange() {
        Due.sentence("Refusals: index before range, factor");
        OrderBounds x = Made.withColumns(2);
        x.row(0, 0);
        x.cut(0, 1);
        for (int v : Edges.outside(-10, 10)) {
            Due.refused("factor(1, 0, " + v + ")", Due.INDEX, () -> x.factor(1, 0, v));
            Due.refused("factor(-1, 0, " + v + ")", Due.INDEX, () -> x.factor(-1, 0, v));
            Due.refused("factor(0, 2, " + v + ")", Due.INDEX, () -> x.factor(0, 2, v));
            Due.refused("factor(0, -1, " + v + ")", Due.INDEX, () -> x.factor(0, -1, v));
            Due.refused("factor(1, 2, " + v + ")", Due.INDEX, () -> x.factor(1, 2, v));
        }
    }

    private static void toldAgain() {
        Due.sentence("Promise 4: a factor that is so already, or other than it was");
        OrderBounds x = Made.oneByOne(9, 0, 6, 2);
        x.factor(0, 0, 2);
        Due.is("3 of factor 2", 0, x.check(3));
        Due.is("4 of factor 2", 101, x.check(4));
        x.factor(0, 0, 1);
        Due.is("6 of factor 1", 0, x.check(6));
        Due.is("7 of factor 1", 101, x.check(7));
        x.factor(0, 0, 0);
        Due.is("9 of factor 0", 0, x.check(9));
    }

    private static void multipliersStay() {
        Due.sentence("all 0 when a row or cut comes: not when a factor is told");
        OrderBounds x = Made.oneByOne(1, 0, 3, 1);
        x.multiplier(0, 1000);
        x.factor(0, 0, 1);
        Due.is("certificate()", 3, x.certificate());
        x.factor(0, 0, 0);
        Due.is("certificate()", 4, x.certificate());
    }

    private static void greatestSums() {
        Due.sentence("TOP (0 .. 20), FACTORS (-10 .. 10): the greatest and the least sum");
        OrderBounds x = Made.withTops(20, 20, 20, 20, 20);
        x.row(0, 1000);
        x.row(1, -1000);
        for (int k = 0; k < 5; k++) {
            x.factor(0, k, 10);
            x.factor(1, k, -10);
        }
        int all = Made.packed(20, 20, 20, 20, 20);
        Due.is("check(all at 20)", 0, x.check(all));
        x.right(0, 999);
        Due.is("not above 999", 101, x.check(all));
        x.right(0, 1000);
        x.right(1, -999);
        Due.is("not below -999", 102, x.check(all));
    }
}
