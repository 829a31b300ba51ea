/** Promise 3: row. */
public final class Promise03RowTest {
    private static final int[] WRONG_KINDS = {-1, 2, Integer.MIN_VALUE, Integer.MAX_VALUE};
    private static final int[] WRONG_RIGHTS = {-10001, 10001, Integer.MIN_VALUE, Integer.MAX_VALUE};

    public static void main(String[] args) {
        numbersAndEdges();
        refusals();
        kinds();
        beginsTheSearchAnew();
        clearsMultipliers();
        Due.end();
    }

    private static void numbersAndEdges() {
        OrderBounds x = new OrderBounds();
        Due.is("row(0, -10000)", 0, x.row(0, -10000));
        Due.is("row(0, 10000)", 1, x.row(0, 10000));
        Due.is("row(1, -10000)", 2, x.row(1, -10000));
        Due.is("row(1, 10000)", 3, x.row(1, 10000));
        Due.is("check(0)", 101, x.check(0));
        x.right(0, 0);
        Due.is("check(0)", 104, x.check(0));
        x.right(3, 0);
        Due.is("check(0)", 0, x.check(0));
    }

    private static void refusals() {
        OrderBounds x = new OrderBounds();
        for (int count = 0; count <= 4; count++) {
            for (int k : WRONG_KINDS) {
                Due.refused("row(" + k + ", 1)", Due.RANGE, () -> x.row(k, 1));
            }
            for (int r : WRONG_RIGHTS) {
                Due.refused("row(0, " + r + ")", Due.RANGE, () -> x.row(0, r));
                Due.refused("row(1, " + r + ")", Due.RANGE, () -> x.row(1, r));
            }
            if (count < 4) {
                Due.is("row(0, 1000)", count, x.row(0, 1000));
            }
        }
        x.multiplier(3, 5);
        x.run(0);
        Due.refused("a fifth row", Due.MEANING, () -> x.row(0, 1));
        Due.refused("a fifth row", Due.MEANING, () -> x.row(1, 1));
        Due.is("told(0) after refusals", 0, x.told(0));
        Due.is("certificate() after refusals", 5, x.certificate());
        Due.refused("right(4, 0)", Due.INDEX, () -> x.right(4, 0));
    }

    private static void kinds() {
        OrderBounds x = new OrderBounds();
        x.column(1, 10);
        x.row(0, 7);
        x.row(1, 4);
        x.factor(0, 0, 1);
        x.factor(1, 0, 1);
        Due.is("check(3)", 102, x.check(3));
        Due.is("check(4)", 0, x.check(4));
        Due.is("check(7)", 0, x.check(7));
        Due.is("check(8)", 101, x.check(8));
    }

    private static void beginsTheSearchAnew() {
        OrderBounds x = new OrderBounds();
        x.column(2, 3);
        x.run(9);
        x.row(0, 0);
        Due.refused("told(0)", Due.TURN, () -> x.told(0));
        Due.is("told(1)", 0, x.told(1));
        Due.is("run(0)", 2, x.run(0));
    }

    private static void clearsMultipliers() {
        OrderBounds x = new OrderBounds();
        x.row(0, 6);
        x.multiplier(0, 1000);
        Due.is("certificate()", 6, x.certificate());
        Due.refused("row(2, 0)", Due.RANGE, () -> x.row(2, 0));
        Due.is("certificate() after a refusal", 6, x.certificate());
        x.row(0, 9);
        Due.is("certificate() after a row", 0, x.certificate());
    }
}
