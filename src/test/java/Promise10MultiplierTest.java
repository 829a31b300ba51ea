/** Promise 10: multiplier. */
public final class Promise10MultiplierTest {
    private static final int[] NO_LINE = {-1, 3, 4, 7, 8, Integer.MIN_VALUE, Integer.MAX_VALUE};
    private static final int[] WRONG_ABOVE = {-1, 1000001, -1000000, Integer.MIN_VALUE, Integer.MAX_VALUE};
    private static final int[] WRONG_BELOW = {1, -1000001, 1000000, Integer.MIN_VALUE, Integer.MAX_VALUE};

    public static void main(String[] args) {
        OrderBounds x = new OrderBounds();
        x.column(0, 4);
        x.column(0, 7);
        x.row(0, 2);
        x.row(1, 3);
        x.cut(0, 1);
        refusals(x);
        Due.is("certificate() after refusals", 0, x.certificate());
        x.run(2);
        x.multiplier(0, 1000000);
        Due.is("row 0 at its most", 2000, x.certificate());
        x.multiplier(0, 0);
        x.multiplier(1, -1000000);
        Due.is("row 1 at its least", -3000, x.certificate());
        x.multiplier(1, 0);
        x.multiplier(2, 1000000);
        Due.is("the cut at its most", 7000, x.certificate());
        refusals(x);
        Due.is("certificate() after refusals", 7000, x.certificate());
        x.multiplier(0, 1000);
        Due.is("two at once", 7002, x.certificate());
        Due.is("the search goes on", 2, x.told(1));
        Due.is("run(0)", 2, x.run(0));
        x.row(0, 9);
        Due.is("all 0 when a row comes", 0, x.certificate());
        x.multiplier(3, 1000);
        Due.is("the cut's new number", 7, x.certificate());
        Due.refused("multiplier(4, 0)", Due.INDEX, () -> x.multiplier(4, 0));
        Due.end();
    }

    private static void refusals(OrderBounds x) {
        for (int n : NO_LINE) {
            Due.refused("multiplier(" + n + ", 0)", Due.INDEX, () -> x.multiplier(n, 0));
            Due.refused("multiplier(" + n + ", 2000000)", Due.INDEX, () -> x.multiplier(n, 2000000));
        }
        for (int v : WRONG_ABOVE) {
            Due.refused("multiplier(0, " + v + ")", Due.RANGE, () -> x.multiplier(0, v));
            Due.refused("multiplier(2, " + v + ")", Due.RANGE, () -> x.multiplier(2, v));
        }
        for (int v : WRONG_BELOW) {
            Due.refused("multiplier(1, " + v + ")", Due.RANGE, () -> x.multiplier(1, v));
        }
    }
}
