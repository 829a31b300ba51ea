/** Promise 8: told. */
public final class Promise08ToldTest {
    private static final int[] NO_WHAT = {-1, 2, 3, Integer.MIN_VALUE, Integer.MAX_VALUE};

    public static void main(String[] args) {
        OrderBounds x = new OrderBounds();
        refusesOtherWhats(x);
        x.column(-3, 2);
        x.column(1, 1);
        Due.refused("told(0)", Due.TURN, () -> x.told(0));
        Due.is("told(1)", 0, x.told(1));
        x.run(1);
        Due.refused("told(0)", Due.TURN, () -> x.told(0));
        Due.is("told(1)", 1, x.told(1));
        x.run(1);
        Due.is("told(0)", -5, x.told(0));
        Due.is("told(1)", 2, x.told(1));
        refusesOtherWhats(x);
        Due.is("run(50)", 0, x.run(50));
        Due.is("told(0)", 1, x.told(0));
        Due.is("told(0) again", 1, x.told(0));
        Due.is("told(1)", 9, x.told(1));
        x.row(1, 1);
        Due.refused("told(0) of the search anew", Due.TURN, () -> x.told(0));
        Due.is("told(1) of the search anew", 0, x.told(1));
        Due.is("run(50)", 1, x.run(50));
        Due.refused("told(0) without a plan", Due.TURN, () -> x.told(0));
        Due.is("told(1) without a plan", 3, x.told(1));
        refusesOtherWhats(x);
        Due.end();
    }

    private static void refusesOtherWhats(OrderBounds x) {
        for (int w : NO_WHAT) {
            Due.refused("told(" + w + ")", Due.INDEX, () -> x.told(w));
        }
    }
}
