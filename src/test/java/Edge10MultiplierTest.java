/** The edges of promise 10. */
public final class Edge10MultiplierTest {
    public static void main(String[] args) {
        notAboveInside();
        notAboveOutside();
        notBelowInside();
        notBelowOutside();
        ofCuts();
        noSuchRowOrCut();
        everyRowAndCut();
        indexBeforeRange();
        zeroAtFirst();
        staysUntilARowOrCutComes();
        Due.end();
    }

    private static void notAboveInside() {
        Due.sentence("MULTIPLIER: 0 .. 1,000,000 for NOT ABOVE");
        OrderBounds x = new OrderBounds();
        x.row(0, 1000);
        for (int v : Edges.inside(0, 1000000)) {
            x.multiplier(0, v);
            Due.is("certificate() of " + v, v, x.certificate());
        }
    }

    private static void notAboveOutside() {
        Due.sentence("Promise 10, range: 0 .. 1,000,000 for NOT ABOVE");
        OrderBounds x = new OrderBounds();
        x.row(0, 1000);
        x.multiplier(0, 7);
        for (int v : Edges.outside(0, 1000000)) {
            Due.refused("multiplier(0, " + v + ")", Due.RANGE, () -> x.multiplier(0, v));
        }
        Due.refused("multiplier(0, -1000000)", Due.RANGE, () -> x.multiplier(0, -1000000));
        Due.is("certificate()", 7, x.certificate());
    }

    private static void notBelowInside() {
        Due.sentence("MULTIPLIER: -1,000,000 .. 0 for NOT BELOW");
        OrderBounds x = new OrderBounds();
        x.row(1, 1000);
        for (int v : Edges.inside(-1000000, 0)) {
            x.multiplier(0, v);
            Due.is("certificate() of " + v, v, x.certificate());
        }
    }

    private static void notBelowOutside() {
        Due.sentence("Promise 10, range: -1,000,000 .. 0 for NOT BELOW");
        OrderBounds x = new OrderBounds();
        x.row(1, 1000);
        x.multiplier(0, -7);
        for (int v : Edges.outside(-1000000, 0)) {
            Due.refused("multiplier(0, " + v + ")", Due.RANGE, () -> x.multiplier(0, v));
        }
        Due.refused("multiplier(0, 1000000)", Due.RANGE, () -> x.multiplier(0, 1000000));
        Due.is("certificate()", -7, x.certificate());
    }

    private static void ofCuts() {
        Due.sentence("MULTIPLIER for each row and cut: 0 .. 1,000,000 for a cut");
        OrderBounds x = new OrderBounds();
        x.column(0, 20);
        x.column(0, 1);
        x.row(1, 0);
        x.cut(0, 1);
        for (int v : Edges.inside(0, 1000000)) {
            x.multiplier(1, v);
            Due.is("certificate() of " + v, 20L * v / 1000, x.certificate());
        }
        for (int v : Edges.outside(0, 1000000)) {
            Due.refused("multiplier(1, " + v + ")", Due.RANGE, () -> x.multiplier(1, v));
        }
    }

    private static void noSuchRowOrCut() {
        Due.sentence("Promise 10, index: no such row or cut");
        for (int rows = 0; rows <= 4; rows++) {
            for (int cuts = 0; cuts <= 4; cuts++) {
                OrderBounds x = Made.withColumns(5);
                Made.addRows(x, rows);
                Made.addCuts(x, cuts);
                for (int n : Edges.noIndex(rows + cuts)) {
                    Due.refused("multiplier(" + n + ", 0) of " + rows + " and " + cuts, Due.INDEX,
                            () -> x.multiplier(n, 0));
                }
                for (int n = 0; n < rows + cuts; n++) {
                    x.multiplier(n, 1);
                }
            }
        }
    }

    private static void everyRowAndCut() {
        Due.sentence("Promise 10: A multiplier, of just that row or cut");
        for (int n = 0; n < 8; n++) {
            OrderBounds x = new OrderBounds();
            for (int k = 0; k < 5; k++) {
                x.column(0, k + 10);
            }
            for (int i = 0; i < 4; i++) {
                x.row(0, i + 1);
            }
            Made.addCuts(x, 4);
            x.multiplier(n, 1000);
            Due.is("multiplier(" + n + ", 1000)", n < 4 ? n + 1 : n - 4 + 11, x.certificate());
        }
    }

    private static void indexBeforeRange() {
        Due.sentence("Refusals: index before range, multiplier");
        OrderBounds x = Made.withColumns(2);
        x.row(0, 0);
        x.cut(0, 1);
        for (int n : Edges.noIndex(2)) {
            for (int v : Edges.outside(-1000000, 1000000)) {
                Due.refused("multiplier(" + n + ", " + v + ")", Due.INDEX, () -> x.multiplier(n, v));
            }
        }
    }

    private static void zeroAtFirst() {
        Due.sentence("MULTIPLIER (thousandths, 0 at first)");
        OrderBounds x = new OrderBounds();
        x.row(0, 10000);
        x.row(1, -10000);
        x.column(0, 20);
        x.column(0, 20);
        x.cut(0, 1);
        Due.is("certificate()", 0, x.certificate());
        OrderBounds y = new OrderBounds();
        y.row(0, 10000);
        y.multiplier(0, 1);
        Due.is("one thousandth of 10,000", 10, y.certificate());
    }

    private static void staysUntilARowOrCutComes() {
        Due.sentence("all 0 when a row or cut comes: nothing else changes a multiplier");
        OrderBounds x = new OrderBounds();
        x.row(0, 6);
        x.multiplier(0, 1000);
        x.column(0, 1);
        x.column(0, 1);
        x.factor(0, 0, 1);
        x.right(0, 5);
        x.follow(0, 1);
        x.run(0);
        x.run(100);
        x.check(0);
        x.contradiction();
        x.chain(0);
        Due.is("certificate()", 5, x.certificate());
        Due.is("certificate() again", 5, x.certificate());
        Due.refused("row(2, 0)", Due.RANGE, () -> x.row(2, 0));
        Due.refused("cut(0, 0)", Due.INDEX, () -> x.cut(0, 0));
        Due.is("certificate() behind refusals", 5, x.certificate());
        x.cut(0, 1);
        Due.is("certificate() behind a cut", 0, x.certificate());
    }
}
