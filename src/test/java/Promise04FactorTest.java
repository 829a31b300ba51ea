/** Promise 4: factor. */
public final class Promise04FactorTest {
    private static final int[] WRONG = {-11, 11, Integer.MIN_VALUE, Integer.MAX_VALUE};
    private static final int[] NO_ROW = {-1, 1, 2, 4, Integer.MIN_VALUE, Integer.MAX_VALUE};
    private static final int[] NO_COLUMN = {-1, 2, 5, Integer.MIN_VALUE, Integer.MAX_VALUE};

    public static void main(String[] args) {
        refusals();
        setsOneFactor();
        beginsTheSearchAnew();
        Due.end();
    }

    private static void refusals() {
        OrderBounds x = new OrderBounds();
        x.column(1, 20);
        x.column(1, 20);
        x.row(0, 200);
        x.cut(0, 1);
        for (int v : WRONG) {
            Due.refused("factor(0, 0, " + v + ")", Due.RANGE, () -> x.factor(0, 0, v));
        }
        for (int r : NO_ROW) {
            Due.refused("factor(" + r + ", 0, 1)", Due.INDEX, () -> x.factor(r, 0, 1));
            Due.refused("factor(" + r + ", 0, 11)", Due.INDEX, () -> x.factor(r, 0, 11));
        }
        for (int c : NO_COLUMN) {
            Due.refused("factor(0, " + c + ", 1)", Due.INDEX, () -> x.factor(0, c, 1));
            Due.refused("factor(0, " + c + ", 11)", Due.INDEX, () -> x.factor(0, c, 11));
        }
        x.run(3);
        Due.refused("factor(0, 0, 11)", Due.RANGE, () -> x.factor(0, 0, 11));
        Due.refused("factor(1, 0, 1) of a cut", Due.INDEX, () -> x.factor(1, 0, 1));
        Due.is("told(1) after refusals", 3, x.told(1));
    }

    private static void setsOneFactor() {
        OrderBounds x = new OrderBounds();
        x.column(1, 20);
        x.column(1, 20);
        x.row(0, 30);
        x.row(1, -30);
        Due.is("all factors 0", 0, x.check(20 | 20 << 6));
        x.factor(0, 1, 10);
        Due.is("check(column 0 at 20)", 0, x.check(20));
        Due.is("check(column 1 at 3)", 0, x.check(3 << 6));
        Due.is("check(column 1 at 4)", 101, x.check(4 << 6));
        x.factor(1, 0, -10);
        Due.is("check(column 0 at 3)", 0, x.check(3));
        Due.is("check(column 0 at 4)", 102, x.check(4));
        x.factor(0, 1, 0);
        Due.is("check(column 1 at 20)", 0, x.check(20 << 6));
    }

    private static void beginsTheSearchAnew() {
        OrderBounds x = new OrderBounds();
        x.column(1, 2);
        x.row(0, 1);
        x.multiplier(0, 1000);
        x.run(9);
        Due.is("told(0)", 2, x.told(0));
        x.factor(0, 0, 1);
        Due.refused("told(0)", Due.TURN, () -> x.told(0));
        Due.is("run(9)", 0, x.run(9));
        Due.is("told(0)", 1, x.told(0));
        x.factor(0, 0, 1);
        Due.is("told(1) after the same factor", 0, x.told(1));
        Due.refused("told(0) after the same factor", Due.TURN, () -> x.told(0));
        Due.is("certificate() keeps its multiplier", 1, x.certificate());
    }
}
