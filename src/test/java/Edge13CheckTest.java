/** The edges of promise 13. */
public final class Edge13CheckTest {
    public static void main(String[] args) {
        sixBitsFromSixKOn();
        bitsBehindTheColumns();
        aboveItsTop();
        theLowestColumn();
        columnsBeforeRows();
        theLowestRowOrCut();
        rowsBeforeCuts();
        leastAndGreatestInt();
        goesByItself();
        Due.end();
    }

    private static void sixBitsFromSixKOn() {
        Due.sentence("Promise 13: column k in six bits from 6 k on");
        OrderBounds x = Made.withTops(20, 20, 20, 20, 20);
        for (int k = 0; k < 5; k++) {
            for (int n = 0; n < 64; n++) {
                Due.is("column " + k + " at " + n, n <= 20 ? 0 : 1 + k, x.check(n << 6 * k));
            }
        }
    }

    private static void bitsBehindTheColumns() {
        Due.sentence("Promise 13: numbers of columns, and no more than there are");
        for (int count = 0; count <= 5; count++) {
            OrderBounds x = Made.withTops(new int[count]);
            Due.is("all bits behind " + count, 0, x.check(-1 << 6 * count));
            for (int k = count; k <= 5; k++) {
                Due.is("bit " + 6 * k + " behind " + count, 0, x.check(1 << 6 * k));
            }
        }
        OrderBounds y = Made.withTops(20, 20, 20, 20, 20);
        Due.is("bit 30", 0, y.check(1 << 30));
        Due.is("bit 31", 0, y.check(1 << 31));
    }

    private static void aboveItsTop() {
        Due.sentence("Promise 13: 1 and the column that is above its top");
        for (int k = 0; k < 5; k++) {
            for (int t = 0; t <= 20; t++) {
                int[] tops = {20, 20, 20, 20, 20};
                tops[k] = t;
                OrderBounds x = Made.withTops(tops);
                Due.is("column " + k + " at its top " + t, 0, x.check(t << 6 * k));
                Due.is("column " + k + " one above " + t, 1 + k, x.check(t + 1 << 6 * k));
                Due.is("column " + k + " at 63", 1 + k, x.check(63 << 6 * k));
            }
        }
    }

    private static void theLowestColumn() {
        Due.sentence("Promise 13: the column that is above its top (the lowest one)");
        OrderBounds x = Made.withTops(1, 1, 1, 1, 1);
        for (int bits = 1; bits < 32; bits++) {
            int numbers = 0;
            for (int k = 0; k < 5; k++) {
                numbers |= ((bits >> k & 1) == 1 ? 2 : 1) << 6 * k;
            }
            Due.is("columns " + bits, 1 + Integer.numberOfTrailingZeros(bits), x.check(numbers));
        }
    }

    private static void columnsBeforeRows() {
        Due.sentence("Promise 13: else 101 and the lowest row or cut: a column above its top comes first");
        OrderBounds x = Made.withTops(1, 1, 1, 1, 1);
        x.row(0, -1);
        x.cut(0, 1);
        for (int k = 0; k < 5; k++) {
            Due.is("column " + k + " and a row", 1 + k, x.check(2 << 6 * k));
        }
        Due.is("a row", 101, x.check(0));
    }

    private static void theLowestRowOrCut() {
        Due.sentence("Promise 13: 101 and the lowest row or cut that does not hold");
        for (int first = 0; first < 4; first++) {
            for (int last = first; last < 4; last++) {
                OrderBounds x = Made.withColumns(5);
                Made.addRows(x, 4);
                Made.addCuts(x, 4);
                x.right(last, -1);
                x.right(first, -1);
                Due.is("rows " + first + " and " + last, 101 + first, x.check(0));
                OrderBounds y = Made.withColumns(5);
                Made.addRows(y, 4);
                Made.addCuts(y, 4);
                int numbers = 2 << 6 * first | 2 << 6 * (first + 1) | 2 << 6 * last | 2 << 6 * (last + 1);
                Due.is("cuts " + first + " and " + last, 105 + first, y.check(numbers));
            }
        }
    }

    private static void rowsBeforeCuts() {
        Due.sentence("Promise 13: the lowest row or cut: a row that was told behind a cut comes before it");
        OrderBounds x = Made.withColumns(2);
        x.cut(0, 1);
        Due.is("the cut alone", 101, x.check(Made.packed(2, 2)));
        x.row(0, 3);
        x.factor(0, 0, 1);
        x.factor(0, 1, 1);
        Due.is("the row and the cut", 101, x.check(Made.packed(2, 2)));
        Due.is("the cut behind the row", 102, x.check(Made.packed(2, 1)));
    }

    private static void leastAndGreatestInt() {
        Due.sentence("Promise 13: numbers below 0, the least and the greatest int");
        OrderBounds x = Made.withTops(20, 20, 20, 20, 20);
        Due.is("check(least)", 0, x.check(Integer.MIN_VALUE));
        Due.is("check(least and 21)", 1, x.check(Integer.MIN_VALUE + 21));
        Due.is("check(greatest)", 1, x.check(Integer.MAX_VALUE));
        Due.is("check(-1)", 1, x.check(-1));
        Due.is("below 0, column 4 at 20", 0, x.check(3 << 30 | 20 << 24));
        Due.is("below 0, column 4 at 21", 5, x.check(3 << 30 | 21 << 24));
        x.row(0, 19);
        x.factor(0, 4, 1);
        Due.is("below 0, column 4 at 19", 0, x.check(3 << 30 | 19 << 24));
        Due.is("below 0, column 4 at 20", 101, x.check(3 << 30 | 20 << 24));
    }

    private static void goesByItself() {
        Due.sentence("a check that goes by itself: no search is needed, and none is changed");
        OrderBounds x = State.SPENT_WITH_NOTHING_FOUND.make();
        Due.is("the best", 0, x.check(Made.packed(3, 2, 0)));
        Due.is("not above 12", 101, x.check(Made.packed(5, 1, 0)));
        Due.is("not below 2", 102, x.check(Made.packed(1, 2, 0)));
        Due.is("the cut", 101, x.check(Made.packed(3, 3, 0)));
        Due.refused("told(0)", Due.TURN, () -> x.told(0));
        Due.is("told(1)", State.STEPS_BEFORE_A_PLAN, x.told(1));
    }
}
