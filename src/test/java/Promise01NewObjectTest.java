/** Promise 1: no columns, rows, cuts; nothing found. */
public final class Promise01NewObjectTest {
    public static void main(String[] args) {
        OrderBounds x = new OrderBounds();
        Due.refused("told(0)", Due.TURN, () -> x.told(0));
        Due.is("told(1)", 0, x.told(1));
        Due.refused("value(0)", Due.INDEX, () -> x.value(0));
        Due.refused("factor(0, 0, 0)", Due.INDEX, () -> x.factor(0, 0, 0));
        Due.refused("right(0, 0)", Due.INDEX, () -> x.right(0, 0));
        Due.refused("multiplier(0, 0)", Due.INDEX, () -> x.multiplier(0, 0));
        Due.refused("cut(0, 1)", Due.INDEX, () -> x.cut(0, 1));
        Due.refused("follow(0, 1)", Due.INDEX, () -> x.follow(0, 1));
        Due.is("certificate()", 0, x.certificate());
        Due.is("contradiction()", -1, x.contradiction());
        Due.is("check(-1)", 0, x.check(-1));
        Due.is("chain(0)", -1, x.chain(0));
        Due.refused("told(0) before run", Due.TURN, () -> x.told(0));
        Due.is("run(0)", 0, x.run(0));
        Due.is("told(0)", 0, x.told(0));
        Due.is("told(1)", 0, x.told(1));
        objectsAreApart();
        Due.end();
    }

    private static void objectsAreApart() {
        OrderBounds a = new OrderBounds();
        OrderBounds b = new OrderBounds();
        a.column(7, 3);
        a.column(7, 3);
        a.row(1, 6);
        a.cut(0, 1);
        a.follow(0, 1);
        a.run(100);
        Due.is("b.contradiction()", -1, b.contradiction());
        Due.is("b.chain(0)", -1, b.chain(0));
        Due.is("b.column(1, 1)", 0, b.column(1, 1));
        Due.is("b.row(0, 0)", 0, b.row(0, 0));
        Due.refused("b.told(0)", Due.TURN, () -> b.told(0));
    }
}
