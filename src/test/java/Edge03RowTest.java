/** The edges of promise 3. */
public final class Edge03RowTest {
    public static void main(String[] args) {
        kindsOutside();
        notAboveHoldsAtItsRightSide();
        notBelowHoldsAtItsRightSide();
        rightsInside();
        rightsOutside();
        atMostFour();
        cutsTakeNoRowsRoom();
        refusedOnesTakeNoNumber();
        rangeBeforeMeaning();
        factorsAreZeroAtFirst();
        multipliersAreZeroWhenARowComes();
        Due.end();
    }

    private static void kindsOutside() {
        Due.sentence("Promise 3, range: kind (0 NOT ABOVE, 1 NOT BELOW)");
        for (int count = 0; count < 4; count++) {
            OrderBounds x = new OrderBounds();
            Made.addRows(x, count);
            for (int k : Edges.outside(0, 1)) {
                Due.refused("row(" + k + ", 0)", Due.RANGE, () -> x.row(k, 0));
                Due.refused("row(" + k + ", 10000)", Due.RANGE, () -> x.row(k, 10000));
                Due.refused("row(" + k + ", 10001)", Due.RANGE, () -> x.row(k, 10001));
            }
        }
    }

    private static void notAboveHoldsAtItsRightSide() {
        Due.sentence("kind 0 NOT ABOVE");
        for (int right = -4; right <= 4; right++) {
            OrderBounds x = Made.oneByOne(8, 0, right, right < 0 ? -1 : 1);
            int n = Math.abs(right);
            Due.is("at " + right, 0, x.check(n));
            Due.is("one above " + right, 101, x.check(right < 0 ? n - 1 : n + 1));
            Due.is("one below " + right, right == 0 ? 101 : 0, x.check(right < 0 ? n + 1 : Math.abs(n - 1)));
        }
    }

    private static void notBelowHoldsAtItsRightSide() {
        Due.sentence("kind 1 NOT BELOW");
        for (int right = -4; right <= 4; right++) {
            OrderBounds x = Made.oneByOne(8, 1, right, right > 0 ? 1 : -1);
            int n = Math.abs(right);
            Due.is("at " + right, 0, x.check(n));
            Due.is("one below " + right, 101, x.check(right > 0 ? n - 1 : n + 1));
            Due.is("one above " + right, right == 0 ? 101 : 0, x.check(right > 0 ? n + 1 : Math.abs(n - 1)));
        }
    }

    private static void rightsInside() {
        Due.sentence("RIGHT side (-10,000 .. 10,000)");
        for (int v : Edges.inside(-10000, 10000)) {
            OrderBounds x = new OrderBounds();
            Due.is("row(0, " + v + ")", 0, x.row(0, v));
            Due.is("row(1, " + v + ")", 1, x.row(1, v));
            x.multiplier(0, 1000);
            Due.is("certificate() of " + v, v, x.certificate());
            x.multiplier(0, 0);
            x.multiplier(1, -1000);
            Due.is("certificate() of not below " + v, -v, x.certificate());
        }
    }

    private static void rightsOutside() {
        Due.sentence("Promise 3, range: RIGHT side (-10,000 .. 10,000)");
        for (int count = 0; count < 4; count++) {
            OrderBounds x = new OrderBounds();
            Made.addRows(x, count);
            for (int v : Edges.outside(-10000, 10000)) {
                Due.refused("row(0, " + v + ")", Due.RANGE, () -> x.row(0, v));
                Due.refused("row(1, " + v + ")", Due.RANGE, () -> x.row(1, v));
            }
        }
    }

    private static void atMostFour() {
        Due.sentence("ROWS 0, 1, .. (at most 4); Promise 3: its number; meaning: there are 4");
        OrderBounds x = new OrderBounds();
        for (int i = 0; i < 4; i++) {
            Due.is("row", i, x.row(i % 2, 0));
        }
        Due.refused("row(0, 0)", Due.MEANING, () -> x.row(0, 0));
        Due.refused("row(1, 10000)", Due.MEANING, () -> x.row(1, 10000));
        Due.refused("row(0, -10000)", Due.MEANING, () -> x.row(0, -10000));
        x.right(3, 1);
        Due.refused("right(4, 1)", Due.INDEX, () -> x.right(4, 1));
        Due.is("check(0)", 104, x.check(0));
    }

    private static void cutsTakeNoRowsRoom() {
        Due.sentence("ROWS (at most 4), CUTS, at most 4: each have room of their own");
        OrderBounds x = Made.withColumns(5);
        Made.addCuts(x, 4);
        for (int i = 0; i < 4; i++) {
            Due.is("row behind 4 cuts", i, x.row(0, 0));
        }
        Due.refused("a fifth row", Due.MEANING, () -> x.row(0, 0));
        OrderBounds y = Made.withColumns(5);
        Made.addRows(y, 4);
        for (int k = 0; k < 4; k++) {
            Due.is("cut behind 4 rows", k + 1, y.cut(k, k + 1));
        }
        Due.refused("a fifth cut", Due.MEANING, () -> y.cut(0, 4));
    }

    private static void refusedOnesTakeNoNumber() {
        Due.sentence("Promise 3: a refused row is none");
        OrderBounds x = new OrderBounds();
        for (int i = 0; i < 4; i++) {
            Due.refused("row(2, 0)", Due.RANGE, () -> x.row(2, 0));
            Due.refused("row(0, 10001)", Due.RANGE, () -> x.row(0, 10001));
            Due.is("row(0, 0)", i, x.row(0, 0));
        }
    }

    private static void rangeBeforeMeaning() {
        Due.sentence("Refusals: range before meaning, row");
        OrderBounds x = new OrderBounds();
        Made.addRows(x, 4);
        for (int k : Edges.outside(0, 1)) {
            Due.refused("row(" + k + ", 0)", Due.RANGE, () -> x.row(k, 0));
        }
        for (int v : Edges.outside(-10000, 10000)) {
            Due.refused("row(0, " + v + ")", Due.RANGE, () -> x.row(0, v));
            Due.refused("row(1, " + v + ")", Due.RANGE, () -> x.row(1, v));
        }
    }

    private static void factorsAreZeroAtFirst() {
        Due.sentence("FACTORS of columns (0 at first)");
        OrderBounds x = Made.withTops(20, 20, 20, 20, 20);
        for (int i = 0; i < 4; i++) {
            x.row(i % 2, 0);
            for (int k = 0; k < 5; k++) {
                Due.is("check(column " + k + " at 20)", 0, x.check(20 << 6 * k));
            }
        }
    }

    private static void multipliersAreZeroWhenARowComes() {
        Due.sentence("all 0 when a row or cut comes: a row");
        OrderBounds x = new OrderBounds();
        x.column(0, 3);
        x.column(0, 7);
        x.row(0, 4);
        x.row(1, 5);
        x.cut(0, 1);
        int[] multipliers = {1000, -2000, 1000};
        for (int n = 0; n < 3; n++) {
            x.multiplier(n, multipliers[n]);
        }
        Due.is("certificate()", 4 - 10 + 7, x.certificate());
        x.row(0, 9);
        Due.is("certificate() when a row has come", 0, x.certificate());
    }
}
