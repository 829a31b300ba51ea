/** Promise 2: column. */
public final class Promise02ColumnTest {
    private static final int[] WRONG_WORTHS = {-1001, 1001, Integer.MIN_VALUE, Integer.MAX_VALUE};
    private static final int[] WRONG_TOPS = {-1, 21, Integer.MIN_VALUE, Integer.MAX_VALUE};

    public static void main(String[] args) {
        numbersAndEdges();
        refusals();
        beginsTheSearchAnew();
        keepsMultipliers();
        laterColumnsHaveNoFactors();
        Due.end();
    }

    private static void numbersAndEdges() {
        OrderBounds x = new OrderBounds();
        Due.is("column(-1000, 20)", 0, x.column(-1000, 20));
        Due.is("column(1000, 20)", 1, x.column(1000, 20));
        Due.is("column(0, 0)", 2, x.column(0, 0));
        Due.is("column(1, 1)", 3, x.column(1, 1));
        Due.is("column(1, 1)", 4, x.column(1, 1));
        Due.is("run", 0, x.run(100000));
        Due.is("told(0)", 20002, x.told(0));
        Due.is("value(0)", 0, x.value(0));
        Due.is("value(1)", 20, x.value(1));
        Due.is("value(2)", 0, x.value(2));
        Due.is("value(3)", 1, x.value(3));
        Due.is("value(4)", 1, x.value(4));
    }

    private static void refusals() {
        OrderBounds x = new OrderBounds();
        for (int count = 0; count <= 5; count++) {
            for (int w : WRONG_WORTHS) {
                Due.refused("column(" + w + ", 1)", Due.RANGE, () -> x.column(w, 1));
            }
            for (int t : WRONG_TOPS) {
                Due.refused("column(1, " + t + ")", Due.RANGE, () -> x.column(1, t));
            }
            if (count < 5) {
                Due.is("column(1, 1)", count, x.column(1, 1));
            }
        }
        Due.is("run", 0, x.run(1000));
        Due.refused("a sixth column", Due.MEANING, () -> x.column(1, 1));
        Due.refused("column(1001, 1)", Due.RANGE, () -> x.column(1001, 1));
        Due.is("told(0) after refusals", 5, x.told(0));
        Due.refused("value(5)", Due.INDEX, () -> x.value(5));
    }

    private static void beginsTheSearchAnew() {
        OrderBounds x = new OrderBounds();
        x.column(2, 3);
        Due.is("run(9)", 0, x.run(9));
        Due.is("told(1)", 4, x.told(1));
        x.column(1, 1);
        Due.refused("told(0)", Due.TURN, () -> x.told(0));
        Due.refused("value(0)", Due.TURN, () -> x.value(0));
        Due.is("told(1)", 0, x.told(1));
        Due.is("run(0)", 2, x.run(0));
        Due.is("run(99)", 0, x.run(99));
        Due.is("told(0)", 7, x.told(0));
    }

    private static void keepsMultipliers() {
        OrderBounds x = new OrderBounds();
        x.row(0, 6);
        x.multiplier(0, 500);
        x.column(1, 1);
        Due.is("certificate()", 4, x.certificate());
    }

    private static void laterColumnsHaveNoFactors() {
        OrderBounds x = new OrderBounds();
        x.column(1, 4);
        x.column(1, 4);
        x.row(0, 3);
        x.factor(0, 0, 1);
        x.factor(0, 1, 1);
        x.cut(0, 1);
        x.column(1, 20);
        Due.is("check(20 of column 2)", 0, x.check(20 << 12));
        x.run(10000);
        Due.is("told(0)", 23, x.told(0));
    }
}
