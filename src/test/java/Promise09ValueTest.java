/** Promise 9: value. */
public final class Promise09ValueTest {
    private static final int[] NO_COLUMN = {-1, 2, 4, 5, Integer.MIN_VALUE, Integer.MAX_VALUE};

    public static void main(String[] args) {
        OrderBounds x = new OrderBounds();
        x.column(2, 3);
        x.column(-5, 4);
        refusesOtherColumns(x);
        Due.refused("value(1)", Due.TURN, () -> x.value(1));
        x.run(1);
        Due.refused("value(0)", Due.TURN, () -> x.value(0));
        x.run(1);
        Due.is("value(0) of the first plan", 3, x.value(0));
        Due.is("value(1) of the first plan", 4, x.value(1));
        x.run(1);
        Due.is("value(0) of the second plan", 3, x.value(0));
        Due.is("value(1) of the second plan", 3, x.value(1));
        Due.is("run(100)", 0, x.run(100));
        Due.is("value(0) of the best", 3, x.value(0));
        Due.is("value(1) of the best", 0, x.value(1));
        refusesOtherColumns(x);
        x.row(0, -1);
        Due.is("run(100)", 1, x.run(100));
        Due.refused("value(0) without a plan", Due.TURN, () -> x.value(0));
        refusesOtherColumns(x);
        Due.end();
    }

    private static void refusesOtherColumns(OrderBounds x) {
        for (int c : NO_COLUMN) {
            Due.refused("value(" + c + ")", Due.INDEX, () -> x.value(c));
        }
    }
}
