/** An object is used for at most 512 calls: the last of them is answered as the first. */
public final class CallsTest {
    public static void main(String[] args) {
        Due.sentence("An object is used for at most 512 calls");
        runs();
        asks();
        changes();
        Due.end();
    }

    private static void runs() {
        OrderBounds x = Made.withTops(20, 20, 20, 20, 20);
        x.row(0, 1);
        x.row(1, 1);
        x.factor(0, 4, 2);
        x.factor(1, 4, 2);
        int all = 4288305;
        for (int call = 10; call <= 511; call++) {
            int given = Math.min((call - 9) * 10000, all);
            Due.is("call " + call + ": run(10000)", given < all ? 2 : 1, x.run(10000));
        }
        Due.is("call 512: told(1)", all, x.told(1));
    }

    private static void asks() {
        OrderBounds x = State.ENDED_WITH_THE_BEST.make();
        for (int i = 0; i < 80; i++) {
            Due.is("told(0)", 17, x.told(0));
            Due.is("value(0)", 3, x.value(0));
            Due.is("check", 0, x.check(Made.packed(3, 2, 0)));
            Due.is("contradiction()", -1, x.contradiction());
            Due.is("chain(2)", 1, x.chain(2));
            Due.refused("chain(-1)", Due.INDEX, () -> x.chain(-1));
        }
    }

    private static void changes() {
        OrderBounds x = Made.oneByOne(20, 0, 0, 1);
        for (int i = 0; i < 100; i++) {
            int n = i % 21;
            x.right(0, n);
            x.factor(0, 0, 1);
            x.multiplier(0, 1000);
            Due.is("run(100)", 0, x.run(100));
            Due.is("told(0), not above " + n, n, x.told(0));
        }
        Due.is("certificate()", 99 % 21, x.certificate());
    }
}
