/** The edges of promise 1. */
public final class Edge01NewObjectTest {
    public static void main(String[] args) {
        noColumns();
        noRows();
        noCuts();
        nothingFound();
        noPairs();
        Due.end();
    }

    private static void noColumns() {
        Due.sentence("Promise 1: No columns");
        OrderBounds x = new OrderBounds();
        Due.refused("value(0)", Due.INDEX, () -> x.value(0));
        Due.refused("cut(0, 1)", Due.INDEX, () -> x.cut(0, 1));
        Due.refused("follow(0, 1)", Due.INDEX, () -> x.follow(0, 1));
        Due.is("chain(0)", -1, x.chain(0));
        for (int numbers : new int[] {0, 1, 63, -1, Integer.MIN_VALUE, Integer.MAX_VALUE}) {
            Due.is("check(" + numbers + ")", 0, x.check(numbers));
        }
        x.row(0, 0);
        Due.refused("factor(0, 0, 0)", Due.INDEX, () -> x.factor(0, 0, 0));
        Due.is("the first column", 0, x.column(0, 0));
    }

    private static void noRows() {
        Due.sentence("Promise 1: No rows");
        OrderBounds x = new OrderBounds();
        Due.refused("right(0, 0)", Due.INDEX, () -> x.right(0, 0));
        Due.refused("multiplier(0, 0)", Due.INDEX, () -> x.multiplier(0, 0));
        Due.is("contradiction()", -1, x.contradiction());
        Due.is("certificate()", 0, x.certificate());
        x.column(0, 0);
        Due.refused("factor(0, 0, 0)", Due.INDEX, () -> x.factor(0, 0, 0));
        Due.is("the first row", 0, x.row(0, 0));
    }

    private static void noCuts() {
        Due.sentence("Promise 1: No cuts");
        OrderBounds x = new OrderBounds();
        x.row(0, 0);
        Due.refused("multiplier(1, 0)", Due.INDEX, () -> x.multiplier(1, 0));
        x.column(0, 0);
        x.column(0, 0);
        Due.refused("multiplier(1, 0) with two columns", Due.INDEX, () -> x.multiplier(1, 0));
        Due.is("the first cut", 1, x.cut(0, 1));
    }

    private static void nothingFound() {
        Due.sentence("Promise 1: nothing found");
        OrderBounds x = new OrderBounds();
        Due.refused("told(0)", Due.TURN, () -> x.told(0));
        Due.is("told(1)", 0, x.told(1));
        Due.refused("told(0) again", Due.TURN, () -> x.told(0));
        Due.is("run(0)", 0, x.run(0));
        Due.is("told(0) behind run(0)", 0, x.told(0));
    }

    private static void noPairs() {
        Due.sentence("Promise 1: a new object has no pairs that follow");
        OrderBounds x = new OrderBounds();
        x.column(0, 0);
        x.column(0, 0);
        Due.is("chain(0)", 0, x.chain(0));
        Due.is("chain(1)", -1, x.chain(1));
        Due.is("the first pair", 1, x.follow(0, 1));
    }
}
