/** Promise 5: right. */
public final class Promise05RightTest {
    private static final int[] WRONG = {-10001, 10001, Integer.MIN_VALUE, Integer.MAX_VALUE};
    private static final int[] NO_ROW = {-1, 2, 3, 4, Integer.MIN_VALUE, Integer.MAX_VALUE};

    public static void main(String[] args) {
        refusals();
        setsOneRightSide();
        beginsTheSearchAnew();
        Due.end();
    }

    private static void refusals() {
        OrderBounds x = new OrderBounds();
        x.column(1, 2);
        x.column(1, 2);
        x.row(0, 0);
        x.row(0, 0);
        x.cut(0, 1);
        x.run(2);
        for (int v : WRONG) {
            Due.refused("right(1, " + v + ")", Due.RANGE, () -> x.right(1, v));
        }
        for (int r : NO_ROW) {
            Due.refused("right(" + r + ", 1)", Due.INDEX, () -> x.right(r, 1));
            Due.refused("right(" + r + ", 10001)", Due.INDEX, () -> x.right(r, 10001));
        }
        Due.is("told(1) after refusals", 2, x.told(1));
    }

    private static void setsOneRightSide() {
        OrderBounds x = new OrderBounds();
        x.row(0, 0);
        x.row(0, 0);
        x.right(0, 10000);
        x.right(1, -10000);
        Due.is("check(0)", 102, x.check(0));
        x.right(0, -10000);
        x.right(1, 10000);
        Due.is("check(0)", 101, x.check(0));
        x.multiplier(0, 1000);
        Due.is("certificate()", -10000, x.certificate());
        x.right(0, 3);
        Due.is("certificate() keeps its multiplier", 3, x.certificate());
    }

    private static void beginsTheSearchAnew() {
        OrderBounds x = new OrderBounds();
        x.column(1, 5);
        x.row(0, 5);
        x.factor(0, 0, 1);
        x.run(100);
        x.right(0, 3);
        Due.refused("told(0)", Due.TURN, () -> x.told(0));
        Due.refused("value(0)", Due.TURN, () -> x.value(0));
        Due.is("told(1)", 0, x.told(1));
        x.run(100);
        Due.is("told(0)", 3, x.told(0));
        x.right(0, 3);
        Due.refused("told(0) after the same right side", Due.TURN, () -> x.told(0));
    }
}
