/** The edges of promise 14. */
public final class Edge14FollowTest {
    private static final int[][] PAIRS = {
        {0, 1}, {1, 0}, {4, 3}, {3, 4}, {2, 0}, {0, 2}, {0, 3}, {0, 4}, {1, 2}, {2, 1}
    };

    public static void main(String[] args) {
        atMostTen();
        soAlready();
        theOtherWayIsAnother();
        noSuchColumns();
        theyAreOne();
        indexBeforeMeaning();
        refusedOnesDoNotCount();
        besideCuts();
        Due.end();
    }

    private static void atMostTen() {
        Due.sentence("FOLLOWS, at most 10; Promise 14: how many; meaning: there are 10");
        OrderBounds x = Made.withColumns(5);
        for (int i = 0; i < 10; i++) {
            Due.is("follow", i + 1, x.follow(PAIRS[i][0], PAIRS[i][1]));
        }
        int[][] others = {{1, 3}, {3, 1}, {1, 4}, {4, 1}, {2, 3}, {3, 2}, {2, 4}, {4, 2}, {3, 0}, {4, 0}};
        for (int[] p : others) {
            Due.refused("an eleventh", Due.MEANING, () -> x.follow(p[0], p[1]));
        }
        for (int[] p : PAIRS) {
            Due.refused("one of the ten", Due.MEANING, () -> x.follow(p[0], p[1]));
        }
        int[] longest = {1, 2, 0, 3, 4};
        for (int k = 0; k < 5; k++) {
            Due.is("chain(" + k + ") by the ten", longest[k], x.chain(k));
        }
    }

    private static void soAlready() {
        Due.sentence("Promise 14, meaning: it is so already");
        OrderBounds x = Made.withColumns(5);
        for (int told = 0; told < 9; told++) {
            x.follow(PAIRS[told][0], PAIRS[told][1]);
            for (int i = 0; i <= told; i++) {
                int[] p = PAIRS[i];
                Due.refused("follow(" + p[0] + ", " + p[1] + ") again", Due.MEANING, () -> x.follow(p[0], p[1]));
            }
        }
        Due.is("a tenth", 10, x.follow(PAIRS[9][0], PAIRS[9][1]));
    }

    private static void theOtherWayIsAnother() {
        Due.sentence("FOLLOWS are pairs (a, b): column b may come behind column a, not a behind b");
        OrderBounds x = Made.withColumns(2);
        Due.is("follow(1, 0)", 1, x.follow(1, 0));
        Due.is("chain(0)", 1, x.chain(0));
        Due.is("chain(1)", 0, x.chain(1));
        Due.is("follow(0, 1)", 2, x.follow(0, 1));
        Due.is("chain(0)", 0, x.chain(0));
        Due.is("chain(1)", 1, x.chain(1));
    }

    private static void noSuchColumns() {
        Due.sentence("Promise 14, index: no such columns");
        for (int count = 0; count <= 5; count++) {
            OrderBounds x = Made.withColumns(count);
            for (int c : Edges.noIndex(count)) {
                Due.refused("follow(0, " + c + ") of " + count, Due.INDEX, () -> x.follow(0, c));
                Due.refused("follow(" + c + ", 0) of " + count, Due.INDEX, () -> x.follow(c, 0));
                Due.refused("follow(" + c + ", " + c + ") of " + count, Due.INDEX, () -> x.follow(c, c));
            }
        }
    }

    private static void theyAreOne() {
        Due.sentence("Promise 14, index: or they are one");
        for (int count = 1; count <= 5; count++) {
            OrderBounds x = Made.withColumns(count);
            for (int k = 0; k < count; k++) {
                int c = k;
                Due.refused("follow(" + k + ", " + k + ")", Due.INDEX, () -> x.follow(c, c));
            }
        }
    }

    private static void indexBeforeMeaning() {
        Due.sentence("Refusals: index before meaning, follow");
        OrderBounds x = Made.withColumns(5);
        for (int[] p : PAIRS) {
            x.follow(p[0], p[1]);
        }
        for (int k = 0; k < 5; k++) {
            int c = k;
            Due.refused("follow(" + k + ", " + k + ")", Due.INDEX, () -> x.follow(c, c));
        }
        for (int c : Edges.noIndex(5)) {
            Due.refused("follow(0, " + c + ")", Due.INDEX, () -> x.follow(0, c));
            Due.refused("follow(" + c + ", 0)", Due.INDEX, () -> x.follow(c, 0));
        }
    }

    private static void refusedOnesDoNotCount() {
        Due.sentence("Promise 14: a refused pair is none");
        OrderBounds x = Made.withColumns(5);
        for (int i = 0; i < 10; i++) {
            int[] p = PAIRS[i];
            Due.refused("follow(" + p[0] + ", 5)", Due.INDEX, () -> x.follow(p[0], 5));
            Due.refused("follow(" + p[0] + ", " + p[0] + ")", Due.INDEX, () -> x.follow(p[0], p[0]));
            Due.is("follow", i + 1, x.follow(p[0], p[1]));
            Due.refused("the same again", Due.MEANING, () -> x.follow(p[0], p[1]));
        }
    }

    private static void besideCuts() {
        Due.sentence("FOLLOWS and CUTS are apart: one of a pair does not refuse the other, nor rule a plan out");
        OrderBounds x = Made.withColumns(2);
        Due.is("follow(0, 1)", 1, x.follow(0, 1));
        Due.is("check(2, 2)", 0, x.check(Made.packed(2, 2)));
        Due.is("cut(0, 1)", 1, x.cut(0, 1));
        Due.is("check(2, 2)", 101, x.check(Made.packed(2, 2)));
        Due.is("follow(1, 0)", 2, x.follow(1, 0));
    }
}
