/** The edges of promise 5. */
public final class Edge05RightTest {
    public static void main(String[] args) {
        rightsInside();
        rightsOutside();
        everyRow();
        noSuchRow();
        cutsAreNone();
        indexBeforeRange();
        toldAgain();
        multipliersStay();
        Due.end();
    }

    private static void rightsInside() {
        Due.sentence("RIGHT side (-10,000 .. 10,000)");
        for (int v : Edges.inside(-10000, 10000)) {
            OrderBounds x = new OrderBounds();
            x.row(0, 5);
            x.right(0, v);
            x.multiplier(0, 1000);
            Due.is("certificate() of right(0, " + v + ")", v, x.certificate());
            Due.is("check(0)", v < 0 ? 101 : 0, x.check(0));
        }
    }

    private static void rightsOutside() {
        Due.sentence("Promise 5, range: RIGHT side (-10,000 .. 10,000)");
        OrderBounds x = new OrderBounds();
        x.row(0, 0);
        x.row(1, 0);
        for (int v : Edges.outside(-10000, 10000)) {
            Due.refused("right(0, " + v + ")", Due.RANGE, () -> x.right(0, v));
            Due.refused("right(1, " + v + ")", Due.RANGE, () -> x.right(1, v));
        }
    }

    private static void everyRow() {
        Due.sentence("Promise 5: A row's right side, of just that row");
        for (int i = 0; i < 4; i++) {
            OrderBounds x = new OrderBounds();
            Made.addRows(x, 4);
            x.right(i, -1);
            Due.is("check(0)", 101 + i, x.check(0));
            x.right(i, 0);
            Due.is("check(0)", 0, x.check(0));
        }
    }

    private static void noSuchRow() {
        Due.sentence("Promise 5, index: no such row");
        for (int count = 0; count <= 4; count++) {
            OrderBounds x = new OrderBounds();
            Made.addRows(x, count);
            for (int r : Edges.noIndex(count)) {
                Due.refused("right(" + r + ", 0) of " + count, Due.INDEX, () -> x.right(r, 0));
            }
        }
    }

    private static void cutsAreNone() {
        Due.sentence("Promise 5, index: a cut is no row");
        for (int count = 0; count <= 4; count++) {
            OrderBounds x = Made.withColumns(5);
            Made.addRows(x, count);
            Made.addCuts(x, 4);
            for (int i = 0; i < 4; i++) {
                int cut = count + i;
                Due.refused("right(" + cut + ", 1) of " + count, Due.INDEX, () -> x.right(cut, 1));
            }
        }
    }

    private static void indexBeforeRange() {
        Due.sentence("Refusals: index before range, right");
        OrderBounds x = Made.withColumns(2);
        x.row(0, 0);
        x.cut(0, 1);
        for (int v : Edges.outside(-10000, 10000)) {
            Due.refused("right(-1, " + v + ")", Due.INDEX, () -> x.right(-1, v));
            Due.refused("right(1, " + v + ")", Due.INDEX, () -> x.right(1, v));
            Due.refused("right(2, " + v + ")", Due.INDEX, () -> x.right(2, v));
        }
    }

    private static void toldAgain() {
        Due.sentence("Promise 5: a right side that is so already, or other than it was; the kind stays");
        OrderBounds x = Made.oneByOne(9, 1, 4, 1);
        x.right(0, 4);
        Due.is("4, not below 4", 0, x.check(4));
        Due.is("3, not below 4", 101, x.check(3));
        x.right(0, 5);
        Due.is("5, not below 5", 0, x.check(5));
        Due.is("4, not below 5", 101, x.check(4));
    }

    private static void multipliersStay() {
        Due.sentence("all 0 when a row or cut comes: not when a right side is told");
        OrderBounds x = new OrderBounds();
        x.row(0, 3);
        x.row(1, 0);
        x.multiplier(0, 1000);
        x.right(1, 0);
        x.right(0, 7);
        Due.is("certificate()", 7, x.certificate());
    }
}
