/** Promise 15: chain. */
public final class Promise15ChainTest {
    public static void main(String[] args) {
        refusals();
        single();
        mostColumnsFirst();
        lowestOfTheLongest();
        eachDifferent();
        lowestIsNotAlwaysLongest();
        manyPairsBehindOne();
        Due.end();
    }

    private static OrderBounds withColumns(int count) {
        OrderBounds x = new OrderBounds();
        for (int k = 0; k < count; k++) {
            x.column(1, 1);
        }
        return x;
    }

    private static void isChain(String what, OrderBounds x, int... chain) {
        for (int k = 0; k < 7; k++) {
            Due.is(what + ": chain(" + k + ")", k < chain.length ? chain[k] : -1, x.chain(k));
        }
        Due.is(what + ": far behind", -1, x.chain(Integer.MAX_VALUE));
    }

    private static void refusals() {
        OrderBounds x = new OrderBounds();
        Due.refused("chain(-1)", Due.INDEX, () -> x.chain(-1));
        x.column(1, 1);
        Due.refused("chain(-1)", Due.INDEX, () -> x.chain(-1));
        Due.refused("chain(least)", Due.INDEX, () -> x.chain(Integer.MIN_VALUE));
    }

    private static void single() {
        isChain("no columns", withColumns(0));
        isChain("one column", withColumns(1), 0);
        isChain("five columns, no pairs", withColumns(5), 0);
    }

    private static void mostColumnsFirst() {
        OrderBounds x = withColumns(5);
        x.follow(0, 1);
        isChain("0 1", x, 0, 1);
        x.follow(4, 3);
        isChain("0 1 and 4 3", x, 0, 1);
        x.follow(3, 2);
        isChain("4 3 2", x, 4, 3, 2);
        x.follow(2, 0);
        isChain("4 3 2 0 1", x, 4, 3, 2, 0, 1);
    }

    private static void lowestOfTheLongest() {
        OrderBounds x = withColumns(5);
        x.follow(1, 4);
        x.follow(1, 3);
        isChain("1 3 before 1 4", x, 1, 3);
        x.follow(0, 4);
        isChain("0 4 before 1 3", x, 0, 4);
        x.follow(4, 2);
        isChain("0 4 2", x, 0, 4, 2);
        x.follow(0, 3);
        isChain("0 3 is shorter", x, 0, 4, 2);
        x.follow(3, 2);
        isChain("0 3 2", x, 0, 3, 2);
    }

    private static void eachDifferent() {
        OrderBounds x = withColumns(3);
        x.follow(0, 1);
        x.follow(1, 0);
        isChain("0 1", x, 0, 1);
        x.follow(0, 2);
        isChain("1 0 2", x, 1, 0, 2);
        x.follow(2, 1);
        isChain("0 2 1 before 1 0 2", x, 0, 2, 1);
        x.column(1, 1);
        isChain("a column without pairs", x, 0, 2, 1);
    }

    private static void lowestIsNotAlwaysLongest() {
        OrderBounds x = withColumns(5);
        int[] pairs = {0, 1, 1, 2, 2, 3, 3, 4, 4, 0, 0, 2, 2, 4, 4, 1, 1, 3, 3, 0};
        for (int i = 0; i < 10; i++) {
            x.follow(pairs[2 * i], pairs[2 * i + 1]);
        }
        isChain("all five", x, 0, 1, 2, 3, 4);
        OrderBounds y = withColumns(5);
        y.follow(0, 1);
        y.follow(0, 2);
        y.follow(2, 3);
        y.follow(3, 1);
        y.follow(1, 4);
        isChain("by way of 2", y, 0, 2, 3, 1, 4);
    }

    private static void manyPairsBehindOne() {
        OrderBounds x = withColumns(5);
        for (int b = 4; b > 0; b--) {
            x.follow(0, b);
        }
        isChain("0 1", x, 0, 1);
        x.follow(4, 0);
        isChain("4 0 1", x, 4, 0, 1);
        x.follow(1, 4);
        isChain("1 4 0 2", x, 1, 4, 0, 2);
        x.follow(3, 1);
        isChain("3 1 4 0 2", x, 3, 1, 4, 0, 2);
    }
}
