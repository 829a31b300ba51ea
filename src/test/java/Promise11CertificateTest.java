/** Promise 11: certificate. */
public final class Promise11CertificateTest {
    public static void main(String[] args) {
        withoutMultipliers();
        roundedTowardsLower();
        byHand();
        greatest();
        Due.end();
    }

    private static void withoutMultipliers() {
        OrderBounds x = new OrderBounds();
        Due.is("nothing", 0, x.certificate());
        x.column(3, 5);
        x.column(-4, 5);
        x.column(0, 20);
        x.column(1000, 0);
        Due.is("worths above 0", 15, x.certificate());
        x.row(0, -7);
        Due.is("a row without a multiplier", 15, x.certificate());
    }

    private static void roundedTowardsLower() {
        OrderBounds x = new OrderBounds();
        x.row(0, -1);
        x.multiplier(0, 1);
        Due.is("-0.001", -1, x.certificate());
        x.multiplier(0, 999);
        Due.is("-0.999", -1, x.certificate());
        x.multiplier(0, 1000);
        Due.is("-1", -1, x.certificate());
        x.multiplier(0, 1001);
        Due.is("-1.001", -2, x.certificate());
        x.right(0, 1);
        x.multiplier(0, 999);
        Due.is("0.999", 0, x.certificate());
        x.multiplier(0, 1999);
        Due.is("1.999", 1, x.certificate());
    }

    private static void byHand() {
        OrderBounds x = new OrderBounds();
        x.column(3, 5);
        x.column(4, 5);
        x.row(0, 12);
        x.factor(0, 0, 2);
        x.factor(0, 1, 3);
        x.multiplier(0, 1400);
        // 16.8, and 5 times 0.2, and nothing for 4 - 4.2.
        Due.is("one row", 17, x.certificate());
        x.row(1, 1);
        x.factor(1, 0, 1);
        x.cut(0, 1);
        x.multiplier(0, 1000);
        x.multiplier(1, -500);
        x.multiplier(2, 250);
        // 12 - 0.5 + 1.25; column 0: 5 (3 - 2 + 0.5 - 0.25); column 1: 5 (4 - 3 - 0.25).
        Due.is("rows and a cut", 22, x.certificate());
        x.run(1000);
        Due.isTrue("it bounds the best", x.told(0) <= x.certificate());
    }

    private static void greatest() {
        OrderBounds x = new OrderBounds();
        for (int k = 0; k < 5; k++) {
            x.column(1000, 20);
        }
        for (int i = 0; i < 4; i++) {
            x.row(0, 10000);
        }
        for (int i = 0; i < 4; i++) {
            for (int k = 0; k < 5; k++) {
                x.factor(i, k, -10);
            }
        }
        for (int i = 0; i < 4; i++) {
            x.multiplier(i, 1000000);
        }
        Due.is("greatest", 4 * 10000000L + 100L * (1000 + 40000), x.certificate());
        for (int i = 0; i < 4; i++) {
            x.right(i, -10000);
        }
        Due.is("lower right sides", -4 * 10000000L + 100L * (1000 + 40000), x.certificate());
        for (int i = 0; i < 4; i++) {
            x.factor(i, 0, 10);
        }
        Due.is("a column that adds nothing", -4 * 10000000L + 80L * (1000 + 40000), x.certificate());
    }
}
