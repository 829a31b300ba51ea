/** Promise 12: contradiction. */
public final class Promise12ContradictionTest {
    public static void main(String[] args) {
        withoutColumns();
        notAbove();
        notBelow();
        lowestFirst();
        byItselfOnly();
        goesBesideTheSearch();
        fullObject();
        Due.end();
    }

    private static void withoutColumns() {
        OrderBounds x = new OrderBounds();
        Due.is("nothing", -1, x.contradiction());
        x.row(0, 0);
        x.row(1, 0);
        Due.is("0 and 0", -1, x.contradiction());
        x.right(1, 1);
        Due.is("not below 1", 1, x.contradiction());
        x.right(0, -1);
        Due.is("not above -1", 0, x.contradiction());
    }

    private static void notAbove() {
        OrderBounds x = new OrderBounds();
        x.column(0, 3);
        x.column(0, 4);
        x.row(0, -6);
        x.factor(0, 0, -2);
        x.factor(0, 1, 5);
        Due.is("least is -6", -1, x.contradiction());
        x.right(0, -7);
        Due.is("not above -7", 0, x.contradiction());
        x.factor(0, 1, -1);
        Due.is("least is -10", -1, x.contradiction());
        x.right(0, -11);
        Due.is("not above -11", 0, x.contradiction());
    }

    private static void notBelow() {
        OrderBounds x = new OrderBounds();
        x.column(0, 3);
        x.column(0, 4);
        x.row(1, 6);
        x.factor(0, 0, 2);
        x.factor(0, 1, -5);
        Due.is("most is 6", -1, x.contradiction());
        x.right(0, 7);
        Due.is("not below 7", 0, x.contradiction());
        x.column(0, 20);
        x.factor(0, 2, 1);
        Due.is("most is 26", -1, x.contradiction());
    }

    private static void lowestFirst() {
        OrderBounds x = new OrderBounds();
        x.row(0, 5);
        x.row(0, -1);
        x.row(1, 1);
        Due.is("rows 1 and 2", 1, x.contradiction());
        x.right(1, 0);
        Due.is("row 2", 2, x.contradiction());
        x.right(2, 0);
        Due.is("none", -1, x.contradiction());
    }

    private static void byItselfOnly() {
        OrderBounds x = new OrderBounds();
        x.column(1, 4);
        x.column(1, 0);
        x.cut(0, 1);
        x.row(0, 1);
        x.row(1, 2);
        x.factor(0, 0, 1);
        x.factor(1, 0, 1);
        Due.is("each by itself holds", -1, x.contradiction());
        Due.is("run", 1, x.run(100));
    }

    private static void goesBesideTheSearch() {
        OrderBounds x = new OrderBounds();
        x.column(1, 4);
        x.row(1, 5);
        x.run(2);
        Due.is("contradiction()", 0, x.contradiction());
        Due.is("told(1)", 2, x.told(1));
    }

    private static void fullObject() {
        OrderBounds x = Full.make();
        Due.is("full", -1, x.contradiction());
        x.right(3, 10);
        Due.is("not below 10", -1, x.contradiction());
        x.right(3, 11);
        Due.is("not below 11", 3, x.contradiction());
    }
}
