/** Promise 14: follow. */
public final class Promise14FollowTest {
    private static final int[] NO_COLUMN = {-1, 5, 6, Integer.MIN_VALUE, Integer.MAX_VALUE};

    public static void main(String[] args) {
        refusals();
        leavesTheRest();
        Due.end();
    }

    private static void refusals() {
        OrderBounds x = new OrderBounds();
        x.column(1, 1);
        Due.refused("follow(0, 0)", Due.INDEX, () -> x.follow(0, 0));
        Due.refused("follow(0, 1) of one column", Due.INDEX, () -> x.follow(0, 1));
        Due.refused("follow(1, 0) of one column", Due.INDEX, () -> x.follow(1, 0));
        for (int k = 1; k < 5; k++) {
            x.column(1, 1);
        }
        int[] pairs = {0, 1, 1, 0, 4, 3, 3, 4, 2, 0, 0, 2, 0, 3, 0, 4, 1, 2, 2, 1};
        for (int i = 0; i < 10; i++) {
            int a = pairs[2 * i];
            int b = pairs[2 * i + 1];
            refusesIndexes(x);
            Due.is("follow(" + a + ", " + b + ")", i + 1, x.follow(a, b));
            Due.refused("the same again", Due.MEANING, () -> x.follow(a, b));
        }
        Due.refused("an eleventh", Due.MEANING, () -> x.follow(4, 0));
        Due.refused("one that is so already", Due.MEANING, () -> x.follow(0, 1));
        refusesIndexes(x);
    }

    private static void refusesIndexes(OrderBounds x) {
        for (int c : NO_COLUMN) {
            Due.refused("follow(0, " + c + ")", Due.INDEX, () -> x.follow(0, c));
            Due.refused("follow(" + c + ", 0)", Due.INDEX, () -> x.follow(c, 0));
        }
        for (int k = 0; k < 5; k++) {
            int c = k;
            Due.refused("follow of one column", Due.INDEX, () -> x.follow(c, c));
        }
    }

    private static void leavesTheRest() {
        OrderBounds x = new OrderBounds();
        x.column(1, 2);
        x.column(1, 2);
        x.row(0, 3);
        x.multiplier(0, 1000);
        x.run(2);
        Due.is("follow(1, 0)", 1, x.follow(1, 0));
        Due.is("told(1)", 2, x.told(1));
        Due.is("told(0)", 4, x.told(0));
        Due.is("certificate()", 7, x.certificate());
        Due.is("cut(1, 0)", 1, x.cut(1, 0));
        Due.is("follow(0, 1)", 2, x.follow(0, 1));
    }
}
