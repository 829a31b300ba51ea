/** The edges of promise 2. */
public final class Edge02ColumnTest {
    public static void main(String[] args) {
        worthsInside();
        worthsOutside();
        topsInside();
        topsOutside();
        atMostFive();
        refusedOnesTakeNoNumber();
        rangeBeforeMeaning();
        laterColumnsHaveNoFactors();
        multipliersStay();
        Due.end();
    }

    private static void worthsInside() {
        Due.sentence("WORTH (-1,000 .. 1,000)");
        for (int w : Edges.inside(-1000, 1000)) {
            OrderBounds x = Made.forcedToOne(w);
            Due.is("run(2), worth " + w, 0, x.run(2));
            Due.is("told(0), worth " + w, w, x.told(0));
        }
    }

    private static void worthsOutside() {
        Due.sentence("Promise 2, range: WORTH (-1,000 .. 1,000)");
        for (int count = 0; count < 5; count++) {
            OrderBounds x = Made.withColumns(count);
            for (int w : Edges.outside(-1000, 1000)) {
                Due.refused("column(" + w + ", 0)", Due.RANGE, () -> x.column(w, 0));
                Due.refused("column(" + w + ", 20)", Due.RANGE, () -> x.column(w, 20));
            }
        }
    }

    private static void topsInside() {
        Due.sentence("TOP (0 .. 20)");
        for (int t = 0; t <= 20; t++) {
            OrderBounds x = Made.withTops(t);
            Due.is("check(" + t + ")", 0, x.check(t));
            Due.is("check(" + t + " and 1)", 1, x.check(t + 1));
            Due.is("run(" + t + ")", 2, x.run(t));
            Due.is("run(1)", 0, x.run(1));
            Due.is("told(0)", t, x.told(0));
        }
    }

    private static void topsOutside() {
        Due.sentence("Promise 2, range: TOP (0 .. 20)");
        for (int count = 0; count < 5; count++) {
            OrderBounds x = Made.withColumns(count);
            for (int t : Edges.outside(0, 20)) {
                Due.refused("column(-1000, " + t + ")", Due.RANGE, () -> x.column(-1000, t));
                Due.refused("column(1000, " + t + ")", Due.RANGE, () -> x.column(1000, t));
            }
            Due.refused("column(1001, 21)", Due.RANGE, () -> x.column(1001, 21));
        }
    }

    private static void atMostFive() {
        Due.sentence("COLUMNS 0, 1, .. (at most 5); Promise 2: its number; meaning: there are 5");
        OrderBounds x = new OrderBounds();
        for (int k = 0; k < 5; k++) {
            Due.is("column", k, x.column(1, k));
        }
        Due.refused("column(0, 0)", Due.MEANING, () -> x.column(0, 0));
        Due.refused("column(-1000, 0)", Due.MEANING, () -> x.column(-1000, 0));
        Due.refused("column(1000, 20)", Due.MEANING, () -> x.column(1000, 20));
        Due.is("run", 0, x.run(100000));
        for (int k = 0; k < 5; k++) {
            Due.is("value(" + k + ")", k, x.value(k));
        }
        Due.refused("value(5)", Due.INDEX, () -> x.value(5));
    }

    private static void refusedOnesTakeNoNumber() {
        Due.sentence("Promise 2: a refused column is none");
        OrderBounds x = new OrderBounds();
        for (int k = 0; k < 5; k++) {
            Due.refused("column(1001, 1)", Due.RANGE, () -> x.column(1001, 1));
            Due.refused("column(1, 21)", Due.RANGE, () -> x.column(1, 21));
            Due.is("column(1, 1)", k, x.column(1, 1));
        }
    }

    private static void rangeBeforeMeaning() {
        Due.sentence("Refusals: range before meaning, column");
        OrderBounds x = Made.withColumns(5);
        for (int w : Edges.outside(-1000, 1000)) {
            Due.refused("column(" + w + ", 1)", Due.RANGE, () -> x.column(w, 1));
        }
        for (int t : Edges.outside(0, 20)) {
            Due.refused("column(1, " + t + ")", Due.RANGE, () -> x.column(1, t));
        }
    }

    private static void laterColumnsHaveNoFactors() {
        Due.sentence("FACTORS of columns (0 at first), of a column that comes later");
        OrderBounds x = Made.withTops(1, 1);
        for (int i = 0; i < 4; i++) {
            x.row(i % 2, 0);
        }
        x.cut(0, 1);
        for (int k = 2; k < 5; k++) {
            x.column(1, 20);
            Due.is("check(column " + k + " at 20)", 0, x.check(20 << 6 * k));
        }
    }

    private static void multipliersStay() {
        Due.sentence("all 0 when a row or cut comes: not when a column comes");
        OrderBounds x = new OrderBounds();
        x.row(0, 3);
        x.multiplier(0, 1000);
        x.column(0, 1);
        Due.is("certificate()", 3, x.certificate());
    }
}
