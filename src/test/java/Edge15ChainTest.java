import java.util.Arrays;

/** The edges of promise 15. */
public final class Edge15ChainTest {
    public static void main(String[] args) {
        belowZero();
        notSoMany();
        withoutColumns();
        withoutPairs();
        theLongestThereCanBe();
        eachDifferent();
        mostColumnsBeforeLowest();
        lowestFirstThenSecond();
        everyOrderOfFive();
        Due.end();
    }

    private static void belowZero() {
        Due.sentence("Promise 15, index: k is below 0");
        for (State state : State.values()) {
            OrderBounds x = state.make();
            for (int k : new int[] {-1, -2, -5, -32, -64, Integer.MIN_VALUE, Integer.MIN_VALUE + 1}) {
                Due.refused(state + ": chain(" + k + ")", Due.INDEX, () -> x.chain(k));
            }
        }
    }

    private static void notSoMany() {
        Due.sentence("Promise 15: -1 when there are not so many");
        for (int count = 0; count <= 5; count++) {
            OrderBounds x = Made.withColumns(count);
            for (int k = 0; k + 1 < count; k++) {
                x.follow(k, k + 1);
            }
            for (int k = 0; k < count; k++) {
                Due.is("chain(" + k + ") of " + count, k, x.chain(k));
            }
            for (int k : new int[] {count, count + 1, 5, 6, 31, 32, 64, 256, 65536, Integer.MAX_VALUE - 1,
                Integer.MAX_VALUE}) {
                Due.is("chain(" + k + ") of " + count, -1, x.chain(k));
            }
        }
    }

    private static void withoutColumns() {
        Due.sentence("A CHAIN is a row of columns: none without columns");
        OrderBounds x = new OrderBounds();
        Due.is("chain(0)", -1, x.chain(0));
        Due.is("chain(1)", -1, x.chain(1));
        Due.is("chain(greatest)", -1, x.chain(Integer.MAX_VALUE));
        x.row(0, 0);
        Due.is("chain(0) with a row", -1, x.chain(0));
    }

    private static void withoutPairs() {
        Due.sentence("A CHAIN is a row of columns: one alone without pairs, the lowest");
        for (int count = 1; count <= 5; count++) {
            OrderBounds x = Made.withColumns(count);
            Due.is("chain(0) of " + count, 0, x.chain(0));
            Due.is("chain(1) of " + count, -1, x.chain(1));
        }
    }

    private static void theLongestThereCanBe() {
        Due.sentence("THE LONGEST has the most columns: all five, with ten pairs");
        OrderBounds x = Made.withColumns(5);
        for (int a = 0; a < 5; a++) {
            for (int b = 0; b < a; b++) {
                x.follow(a, b);
            }
        }
        isChain(x, 4, 3, 2, 1, 0);
    }

    private static void eachDifferent() {
        Due.sentence("A CHAIN is a row of columns, each different: round trips end");
        OrderBounds x = Made.withColumns(5);
        x.follow(0, 1);
        x.follow(1, 0);
        isChain(x, 0, 1);
        OrderBounds y = Made.withColumns(5);
        for (int k = 0; k < 5; k++) {
            y.follow(k, (k + 1) % 5);
        }
        isChain(y, 0, 1, 2, 3, 4);
        OrderBounds z = Made.withColumns(5);
        z.follow(4, 2);
        z.follow(2, 4);
        z.follow(2, 1);
        isChain(z, 4, 2, 1);
    }

    private static void mostColumnsBeforeLowest() {
        Due.sentence("THE LONGEST has the most columns, of these it is the first one");
        OrderBounds x = Made.withColumns(5);
        x.follow(0, 1);
        isChain(x, 0, 1);
        x.follow(4, 3);
        isChain(x, 0, 1);
        x.follow(3, 2);
        isChain(x, 4, 3, 2);
        x.follow(1, 2);
        isChain(x, 0, 1, 2);
    }

    private static void lowestFirstThenSecond() {
        Due.sentence("the lowest first column, then the lowest second one, ..");
        OrderBounds x = Made.withColumns(5);
        x.follow(0, 4);
        x.follow(4, 3);
        isChain(x, 0, 4, 3);
        x.follow(0, 3);
        isChain(x, 0, 4, 3);
        x.follow(3, 2);
        isChain(x, 0, 4, 3, 2);
        x.follow(3, 1);
        isChain(x, 0, 4, 3, 1);
        x.follow(1, 2);
        isChain(x, 0, 4, 3, 1, 2);
        x.follow(2, 1);
        isChain(x, 0, 4, 3, 1, 2);
    }

    /** A chain through all five, whatever their order: no other has so many. */
    private static void everyOrderOfFive() {
        Due.sentence("The k-th column of the longest chain (0 first)");
        for (int code = 0; code < 3125; code++) {
            int[] order = {code % 5, code / 5 % 5, code / 25 % 5, code / 125 % 5, code / 625};
            if (Arrays.stream(order).distinct().count() == 5) {
                OrderBounds x = Made.withColumns(5);
                for (int i = 3; i >= 0; i--) {
                    x.follow(order[i], order[i + 1]);
                }
                isChain(x, order);
            }
        }
    }

    private static void isChain(OrderBounds x, int... chain) {
        for (int k = 0; k < 6; k++) {
            Due.is("chain(" + k + ")", k < chain.length ? chain[k] : -1, x.chain(k));
        }
    }
}
