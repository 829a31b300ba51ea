/** Promise 13: check. */
public final class Promise13CheckTest {
    public static void main(String[] args) {
        sixBitsEach();
        topsBeforeRows();
        lowestRowThenCut();
        bitsBehindTheColumns();
        goesByItself();
        fullObject();
        Due.end();
    }

    private static void sixBitsEach() {
        OrderBounds x = new OrderBounds();
        for (int k = 0; k < 5; k++) {
            x.column(1, 20 - k);
        }
        for (int k = 0; k < 5; k++) {
            Due.is("column " + k + " at its top", 0, x.check(20 - k << 6 * k));
            Due.is("column " + k + " above its top", 1 + k, x.check(21 - k << 6 * k));
            Due.is("column " + k + " at 63", 1 + k, x.check(63 << 6 * k));
            Due.is("column " + k + " at 32", 1 + k, x.check(32 << 6 * k));
        }
        Due.is("columns 1 and 3 above", 2, x.check(20 << 6 | 20 << 18));
        Due.is("all at their tops", 0, x.check(20 | 19 << 6 | 18 << 12 | 17 << 18 | 16 << 24));
    }

    private static void topsBeforeRows() {
        OrderBounds x = new OrderBounds();
        x.column(1, 2);
        x.column(1, 0);
        x.row(0, -1);
        Due.is("a top and a row", 1, x.check(3));
        Due.is("a later top and a row", 2, x.check(1 << 6));
        Due.is("a row", 101, x.check(0));
    }

    private static void lowestRowThenCut() {
        OrderBounds x = new OrderBounds();
        x.column(1, 3);
        x.column(1, 3);
        x.cut(0, 1);
        x.row(0, 5);
        x.row(1, 1);
        x.factor(0, 0, 1);
        x.factor(0, 1, 1);
        x.factor(1, 0, 1);
        Due.is("2 and 1", 0, x.check(2 | 1 << 6));
        Due.is("0 and 1", 102, x.check(1 << 6));
        Due.is("2 and 2", 103, x.check(2 | 2 << 6));
        Due.is("3 and 3", 101, x.check(3 | 3 << 6));
        x.factor(0, 0, -10);
        x.right(0, -20);
        Due.is("1 and 0, below 0", 101, x.check(1));
        Due.is("2 and 0, below 0", 0, x.check(2));
    }

    private static void bitsBehindTheColumns() {
        OrderBounds x = new OrderBounds();
        Due.is("no columns", 0, x.check(Integer.MIN_VALUE));
        x.column(1, 1);
        Due.is("what is behind is not looked at", 0, x.check(1 | -64));
        for (int k = 0; k < 4; k++) {
            x.column(1, 20);
        }
        Due.is("the two highest bits", 0, x.check(3 << 30));
        Due.is("-1", 1, x.check(-1));
        Due.is("the greatest", 1, x.check(Integer.MAX_VALUE));
        Due.is("below 0, column 4 above", 5, x.check(1 << 31 | 21 << 24));
        Due.is("below 0, column 4 at its top", 0, x.check(1 << 31 | 20 << 24));
    }

    private static void goesByItself() {
        OrderBounds x = new OrderBounds();
        x.column(1, 9);
        x.row(0, 4);
        x.factor(0, 0, 1);
        x.run(3);
        Due.is("check(4)", 0, x.check(4));
        Due.is("check(5)", 101, x.check(5));
        Due.is("told(1)", 3, x.told(1));
        Due.refused("told(0)", Due.TURN, () -> x.told(0));
        x.run(100);
        Due.is("check(5)", 101, x.check(5));
        Due.is("value(0)", 4, x.value(0));
    }

    private static void fullObject() {
        OrderBounds x = Full.make();
        int two = 2;
        Due.is("2 0 2 0 2", 0, x.check(two | two << 12 | two << 24));
        Due.is("all 2", 101, x.check(two | two << 6 | two << 12 | two << 18 | two << 24));
        Due.is("2 2 2 2 1", 102, x.check(two | two << 6 | two << 12 | two << 18 | 1 << 24));
        Due.is("2 2 2 2 0", 103, x.check(two | two << 6 | two << 12 | two << 18));
        Due.is("2 2 0 0 0", 105, x.check(two | two << 6));
        Due.is("0 2 2 0 0", 106, x.check(two << 6 | two << 12));
        Due.is("0 0 2 2 0", 107, x.check(two << 12 | two << 18));
        Due.is("0 0 0 2 2", 108, x.check(two << 18 | two << 24));
        x.right(3, 1);
        Due.is("all 0", 104, x.check(0));
    }
}
