/** The edges of promise 12. */
public final class Edge12ContradictionTest {
    public static void main(String[] args) {
        noneSuch();
        withoutColumns();
        notAboveByItsLeast();
        notBelowByItsMost();
        leastAndGreatestSums();
        topsOfZero();
        lowestOfSeveral();
        byItself();
        cutsAlwaysCanHold();
        Due.end();
    }

    private static void noneSuch() {
        Due.sentence("Promise 12: -1 when there is none such");
        Due.is("nothing", -1, new OrderBounds().contradiction());
        Due.is("columns alone", -1, Made.withColumns(5).contradiction());
        Due.is("all there is room for", -1, Full.make().contradiction());
    }

    private static void withoutColumns() {
        Due.sentence("A CONTRADICTION: no numbers at all, without columns");
        int[] rights = {-10000, -1, 0, 1, 10000};
        for (int v : rights) {
            OrderBounds x = new OrderBounds();
            x.row(0, v);
            Due.is("not above " + v, v < 0 ? 0 : -1, x.contradiction());
            OrderBounds y = new OrderBounds();
            y.row(1, v);
            Due.is("not below " + v, v > 0 ? 0 : -1, y.contradiction());
        }
    }

    private static void notAboveByItsLeast() {
        Due.sentence("A CONTRADICTION: NOT ABOVE, the least sum is one above the right side");
        OrderBounds x = Made.withTops(3, 4, 5);
        x.row(0, -18);
        x.factor(0, 0, -2);
        x.factor(0, 1, -3);
        x.factor(0, 2, 10);
        Due.is("the least is -18", -1, x.contradiction());
        x.right(0, -19);
        Due.is("not above -19", 0, x.contradiction());
        x.right(0, 10000);
        Due.is("not above 10,000", -1, x.contradiction());
        OrderBounds y = Made.oneByOne(5, 0, 0, 10);
        Due.is("the least is 0", -1, y.contradiction());
        y.right(0, -1);
        Due.is("not above -1", 0, y.contradiction());
    }

    private static void notBelowByItsMost() {
        Due.sentence("A CONTRADICTION: NOT BELOW, the greatest sum is one below the right side");
        OrderBounds x = Made.withTops(3, 4, 5);
        x.row(1, 18);
        x.factor(0, 0, 2);
        x.factor(0, 1, 3);
        x.factor(0, 2, -10);
        Due.is("the most is 18", -1, x.contradiction());
        x.right(0, 19);
        Due.is("not below 19", 0, x.contradiction());
        x.right(0, -10000);
        Due.is("not below -10,000", -1, x.contradiction());
        OrderBounds y = Made.oneByOne(5, 1, 0, -10);
        Due.is("the most is 0", -1, y.contradiction());
        y.right(0, 1);
        Due.is("not below 1", 0, y.contradiction());
    }

    private static void leastAndGreatestSums() {
        Due.sentence("A CONTRADICTION: all columns at the greatest top with the greatest factors");
        OrderBounds x = Made.withTops(20, 20, 20, 20, 20);
        x.row(0, -1000);
        x.row(1, 1000);
        for (int k = 0; k < 5; k++) {
            x.factor(0, k, -10);
            x.factor(1, k, 10);
        }
        Due.is("-1,000 and 1,000", -1, x.contradiction());
        x.right(1, 1001);
        Due.is("not below 1,001", 1, x.contradiction());
        x.right(0, -1001);
        Due.is("not above -1,001", 0, x.contradiction());
    }

    private static void topsOfZero() {
        Due.sentence("A CONTRADICTION: a column of top 0 can't help");
        OrderBounds x = Made.oneByOne(0, 1, 1, 10);
        Due.is("not below 1", 0, x.contradiction());
        OrderBounds y = Made.oneByOne(0, 0, -1, -10);
        Due.is("not above -1", 0, y.contradiction());
    }

    private static void lowestOfSeveral() {
        Due.sentence("A CONTRADICTION is the lowest row");
        for (int first = 0; first < 4; first++) {
            for (int last = first; last < 4; last++) {
                OrderBounds x = new OrderBounds();
                Made.addRows(x, 4);
                x.right(last, -1);
                x.right(first, -1);
                Due.is("rows " + first + " and " + last, first, x.contradiction());
            }
        }
    }

    private static void byItself() {
        Due.sentence("A CONTRADICTION: by itself, not with another one");
        OrderBounds x = Made.oneByOne(9, 0, 4, 1);
        x.row(1, 5);
        x.factor(1, 0, 1);
        Due.is("not above 4 and not below 5", -1, x.contradiction());
        Due.is("run(100)", 1, x.run(100));
    }

    private static void cutsAlwaysCanHold() {
        Due.sentence("(then cut): a cut holds of 0 and 0, and takes no row's number");
        OrderBounds x = Made.withTops(0, 0, 20);
        x.cut(0, 1);
        x.cut(1, 2);
        Due.is("cuts alone", -1, x.contradiction());
        x.row(0, 0);
        x.row(1, 1);
        Due.is("cuts told first, then rows", 1, x.contradiction());
    }
}
