/** Promise 6: cut. */
public final class Promise06CutTest {
    private static final int[] NO_COLUMN = {-1, 4, 5, Integer.MIN_VALUE, Integer.MAX_VALUE};

    public static void main(String[] args) {
        refusals();
        rightSideIsTheGreaterTop();
        numberedBehindRows();
        beginsTheSearchAnew();
        clearsMultipliers();
        Due.end();
    }

    private static OrderBounds withColumns() {
        OrderBounds x = new OrderBounds();
        x.column(1, 3);
        x.column(1, 5);
        x.column(1, 2);
        x.column(1, 0);
        return x;
    }

    private static void refusals() {
        OrderBounds x = withColumns();
        for (int c : NO_COLUMN) {
            Due.refused("cut(0, " + c + ")", Due.INDEX, () -> x.cut(0, c));
            Due.refused("cut(" + c + ", 0)", Due.INDEX, () -> x.cut(c, 0));
            Due.refused("cut(" + c + ", " + c + ")", Due.INDEX, () -> x.cut(c, c));
        }
        Due.refused("cut(2, 2)", Due.INDEX, () -> x.cut(2, 2));
        Due.is("cut(0, 1)", 1, x.cut(0, 1));
        Due.refused("cut(0, 1) again", Due.MEANING, () -> x.cut(0, 1));
        Due.refused("cut(1, 0)", Due.MEANING, () -> x.cut(1, 0));
        Due.is("cut(2, 1)", 2, x.cut(2, 1));
        Due.refused("cut(1, 2)", Due.MEANING, () -> x.cut(1, 2));
        Due.is("cut(0, 2)", 3, x.cut(0, 2));
        Due.is("cut(0, 3)", 4, x.cut(0, 3));
        x.multiplier(3, 1000);
        x.run(4);
        Due.refused("a fifth cut", Due.MEANING, () -> x.cut(1, 3));
        Due.refused("a pair that has one", Due.MEANING, () -> x.cut(3, 0));
        Due.refused("cut(0, 0) when there are 4", Due.INDEX, () -> x.cut(0, 0));
        Due.refused("cut(0, 4) when there are 4", Due.INDEX, () -> x.cut(0, 4));
        Due.is("told(1) after refusals", 4, x.told(1));
        Due.is("certificate() after refusals", 3 + 5 + 2, x.certificate());
        Due.refused("multiplier(4, 0)", Due.INDEX, () -> x.multiplier(4, 0));
    }

    private static void rightSideIsTheGreaterTop() {
        OrderBounds x = withColumns();
        x.cut(0, 1);
        Due.is("0 and 5", 0, x.check(5 << 6));
        Due.is("3 and 2", 0, x.check(3 | 2 << 6));
        Due.is("3 and 3", 101, x.check(3 | 3 << 6));
        Due.is("1 and 5", 101, x.check(1 | 5 << 6));
        Due.is("other columns", 0, x.check(5 << 6 | 2 << 12));
        x.run(1000);
        Due.is("told(0)", 7, x.told(0));
        Due.is("value(0)", 3, x.value(0));
        Due.is("value(1)", 2, x.value(1));
        OrderBounds y = withColumns();
        y.cut(1, 0);
        Due.is("3 and 2, told the other way", 0, y.check(3 | 2 << 6));
        Due.is("3 and 3, told the other way", 101, y.check(3 | 3 << 6));
    }

    private static void numberedBehindRows() {
        OrderBounds x = withColumns();
        x.cut(1, 2);
        x.cut(0, 1);
        int secondOnly = 3 | 3 << 6;
        int both = 3 | 5 << 6 | 1 << 12;
        Due.is("second cut", 102, x.check(secondOnly));
        Due.is("first cut", 101, x.check(both));
        x.row(0, 0);
        Due.is("second cut behind a row", 103, x.check(secondOnly));
        Due.is("first cut behind a row", 102, x.check(both));
        x.row(1, 0);
        Due.is("second cut behind two rows", 104, x.check(secondOnly));
        x.multiplier(2, 1000);
        Due.is("certificate()", 5 + 3, x.certificate());
        x.multiplier(2, 0);
        x.multiplier(3, 1000);
        Due.is("certificate()", 5 + 2, x.certificate());
        x.row(0, -1);
        Due.is("a row comes first", 103, x.check(both));
    }

    private static void beginsTheSearchAnew() {
        OrderBounds x = withColumns();
        x.run(1000);
        Due.is("told(0)", 10, x.told(0));
        x.cut(0, 1);
        Due.refused("told(0)", Due.TURN, () -> x.told(0));
        Due.is("told(1)", 0, x.told(1));
        Due.is("run(0)", 2, x.run(0));
    }

    private static void clearsMultipliers() {
        OrderBounds x = withColumns();
        x.row(0, 1);
        x.cut(0, 1);
        x.multiplier(0, 5000);
        x.multiplier(1, 1000);
        Due.is("certificate()", 5 + 5 + 2, x.certificate());
        x.cut(1, 2);
        Due.is("certificate() after a cut", 10, x.certificate());
    }
}
