/** The edges of promise 11. */
public final class Edge11CertificateTest {
    public static void main(String[] args) {
        nothing();
        whereThatIsAboveZero();
        oneThousandthAboveZero();
        roundedTowardsLowerNumbers();
        worthsAreThousandfold();
        topOfZero();
        beyondAnInt();
        leastAndGreatest();
        boundsEveryPlan();
        Due.end();
    }

    private static void nothing() {
        Due.sentence("Promise 11: without columns, rows and cuts; with columns alone; with rows alone");
        OrderBounds x = new OrderBounds();
        Due.is("nothing", 0, x.certificate());
        x.row(0, -10000);
        Due.is("a row alone", 0, x.certificate());
        OrderBounds y = new OrderBounds();
        y.column(1000, 20);
        y.column(-1000, 20);
        y.column(0, 20);
        Due.is("columns alone", 20000, y.certificate());
    }

    /** The worth is 7 thousand: 6,993, 7,000 and 7,007 are taken from it. */
    private static void whereThatIsAboveZero() {
        Due.sentence("top times (..), where that is above 0");
        OrderBounds x = new OrderBounds();
        x.column(7, 20);
        x.row(0, 0);
        x.factor(0, 0, 7);
        x.multiplier(0, 999);
        Due.is("7 above 0, 20 times: 0.14", 0, x.certificate());
        x.multiplier(0, 950);
        Due.is("350 above 0, 20 times: 7", 7, x.certificate());
        x.multiplier(0, 1000);
        Due.is("just 0", 0, x.certificate());
        x.multiplier(0, 1001);
        Due.is("7 below 0 is left out", 0, x.certificate());
        x.multiplier(0, 1000000);
        Due.is("far below 0 is left out", 0, x.certificate());
        x.column(2, 3);
        Due.is("one left out, one not", 6, x.certificate());
    }

    /** 20 times 0.999 lacks just the 20 thousandths that column 0 adds. */
    private static void oneThousandthAboveZero() {
        Due.sentence("top times (..), where that is above 0: by one thousandth");
        OrderBounds x = new OrderBounds();
        x.column(1, 20);
        x.row(0, 20);
        x.factor(0, 0, 1);
        x.multiplier(0, 999);
        Due.is("19.980 and 20 times 0.001", 20, x.certificate());
        x.row(0, 0);
        x.factor(1, 0, 1);
        x.multiplier(0, 999);
        x.multiplier(1, 1);
        Due.is("19.980 and 20 times 0", 19, x.certificate());
        x.multiplier(1, 2);
        Due.is("19.980 and nothing for 20 times -0.001", 19, x.certificate());
    }

    private static void roundedTowardsLowerNumbers() {
        Due.sentence("over 1,000, rounded towards lower numbers");
        int[] sums = {-2001, -2000, -1999, -1001, -1000, -999, -1, 0, 1, 999, 1000, 1001, 1999, 2000};
        for (int s : sums) {
            OrderBounds x = new OrderBounds();
            x.row(0, s < 0 ? -1 : 1);
            x.multiplier(0, Math.abs(s));
            Due.is(s + " over 1,000", Math.floorDiv(s, 1000), x.certificate());
            OrderBounds y = new OrderBounds();
            y.row(1, s < 0 ? 1 : -1);
            y.multiplier(0, -Math.abs(s));
            Due.is(s + " over 1,000, not below", Math.floorDiv(s, 1000), y.certificate());
        }
        OrderBounds z = Made.withColumns(0);
        z.row(0, -1);
        z.row(0, -1);
        z.multiplier(0, 500);
        z.multiplier(1, 500);
        Due.is("two halves are rounded together", -1, z.certificate());
    }

    private static void worthsAreThousandfold() {
        Due.sentence("1,000 times worth less the sum of multiplier times factor");
        OrderBounds x = new OrderBounds();
        x.column(-3, 5);
        x.row(1, 0);
        x.factor(0, 0, 10);
        x.multiplier(0, -300);
        Due.is("-3 and 3", 0, x.certificate());
        x.multiplier(0, -301);
        Due.is("-3 and 3.01, 5 times: 0.05", 0, x.certificate());
        x.multiplier(0, -320);
        Due.is("-3 and 3.2, 5 times", 1, x.certificate());
        x.multiplier(0, -1000000);
        Due.is("-3 and 10,000, 5 times", 5 * (10000 - 3), x.certificate());
    }

    private static void topOfZero() {
        Due.sentence("top times (..): a top of 0");
        OrderBounds x = new OrderBounds();
        x.column(1000, 0);
        x.row(0, 2);
        x.factor(0, 0, -10);
        x.multiplier(0, 1000000);
        Due.is("certificate()", 2000, x.certificate());
    }

    /** The sum in thousandths is beyond an int though its thousandth is not. */
    private static void beyondAnInt() {
        Due.sentence("Promise 11: the sum is beyond an int");
        OrderBounds x = new OrderBounds();
        x.row(0, 2148);
        x.multiplier(0, 1000000);
        Due.is("2,148 million", 2148000, x.certificate());
        x.right(0, -2148);
        Due.is("-2,148 million", -2148000, x.certificate());
        x.right(0, 10000);
        Due.is("10,000 million", 10000000, x.certificate());
        OrderBounds y = new OrderBounds();
        y.column(1000, 20);
        for (int i = 0; i < 4; i++) {
            y.row(0, 0);
            y.factor(i, 0, -10);
        }
        for (int i = 0; i < 4; i++) {
            y.multiplier(i, 1000000);
        }
        Due.is("20 times 41 million", 20 * 41000, y.certificate());
    }

    private static void leastAndGreatest() {
        Due.sentence("Promise 11: the greatest and the least that it can say");
        OrderBounds x = new OrderBounds();
        OrderBounds y = new OrderBounds();
        for (int k = 0; k < 5; k++) {
            x.column(1000, 20);
            y.column(-1000, 20);
        }
        for (int i = 0; i < 4; i++) {
            x.row(0, 10000);
            y.row(1, 10000);
            for (int k = 0; k < 5; k++) {
                x.factor(i, k, -10);
                y.factor(i, k, -10);
            }
        }
        Made.addCuts(x, 4);
        Made.addCuts(y, 4);
        for (int i = 0; i < 4; i++) {
            x.multiplier(i, 1000000);
            y.multiplier(i, -1000000);
        }
        Due.is("the greatest of rows", 4 * 10000000L + 5 * 20 * (1000 + 40000L), x.certificate());
        Due.is("the least", -4 * 10000000L, y.certificate());
        for (int i = 4; i < 8; i++) {
            x.multiplier(i, 1000000);
        }
        // A cut adds 20 times 1,000 and takes 1,000 from each of its two columns, 20 times.
        Due.is("cuts too", 44100000L + 4 * 20000 - 4 * 2 * 20000, x.certificate());
    }

    private static void boundsEveryPlan() {
        Due.sentence("It says that no plan's worth is above");
        OrderBounds x = State.NOT_YET_RUN.make();
        for (int a = 0; a <= 3000; a += 375) {
            for (int b = 0; b >= -3000; b -= 750) {
                x.multiplier(0, a);
                x.multiplier(1, b);
                Due.isTrue("certificate() is not below 17", x.certificate() >= 17);
            }
        }
    }
}
