/** The edges of promise 7 and of the search. */
public final class Edge07RunTest {
    public static void main(String[] args) {
        stepsInside();
        stepsOutside();
        noStep();
        spentAtEachStep();
        spentBeforeTheEndWithoutPlan();
        afterTheEnd();
        withoutColumns();
        withoutColumnsButWithRows();
        aColumnAfterTheEndWithoutColumns();
        fromTheTopDown();
        notAboveTheBest();
        oneAboveTheBest();
        nothingFoundIsNoWorth();
        negativeWorthsAddNothing();
        hopeOfZero();
        canNotHoldNotAbove();
        canNotHoldNotBelow();
        cutsCanNotHold();
        eachOfAllRowsAndCuts();
        firstOfTheBest();
        topsOfZero();
        Due.end();
    }

    private static OrderBounds long5() {
        OrderBounds x = Made.withTops(20, 20, 20, 20, 20);
        x.row(0, 1);
        x.row(1, 1);
        x.factor(0, 4, 2);
        x.factor(1, 4, 2);
        return x;
    }

    private static void stepsInside() {
        Due.sentence("Promise 7: so many steps (0 .. 100,000)");
        for (int s : Edges.inside(0, 100000)) {
            OrderBounds x = long5();
            Due.is("run(" + s + ")", 2, x.run(s));
            Due.is("told(1)", s, x.told(1));
            Due.is("run(" + s + ") again", 2, x.run(s));
            Due.is("told(1)", 2 * s, x.told(1));
        }
    }

    private static void stepsOutside() {
        Due.sentence("Promise 7, range: steps");
        for (State state : State.values()) {
            OrderBounds x = state.make();
            int steps = x.told(1);
            for (int s : Edges.outside(0, 100000)) {
                Due.refused(state + ": run(" + s + ")", Due.RANGE, () -> x.run(s));
            }
            Due.is(state + ": told(1)", steps, x.told(1));
        }
    }

    private static void noStep() {
        Due.sentence("when none is left for a number that is to be given it is SPENT: run(0)");
        OrderBounds x = Made.withTops(0);
        for (int i = 0; i < 3; i++) {
            Due.is("run(0)", 2, x.run(0));
            Due.is("told(1)", 0, x.told(1));
            Due.refused("told(0)", Due.TURN, () -> x.told(0));
        }
        Due.is("run(1)", 0, x.run(1));
        Due.is("told(1)", 1, x.told(1));
    }

    private static void spentAtEachStep() {
        Due.sentence("run() goes on from where the search stopped: SPENT with a step to go, ended with none to go");
        OrderBounds whole = State.NOT_YET_RUN.make();
        Due.is("run(100000)", 0, whole.run(100000));
        int all = whole.told(1);
        for (int first = 0; first <= all + 1; first++) {
            OrderBounds x = State.NOT_YET_RUN.make();
            Due.is("run(" + first + ") of " + all, first < all ? 2 : 0, x.run(first));
            Due.is("told(1)", Math.min(first, all), x.told(1));
            if (first < all - 1) {
                Due.is("one less than all", 2, x.run(all - first - 1));
                Due.is("the last one", 0, x.run(1));
            } else if (first == all - 1) {
                Due.is("the last one", 0, x.run(1));
            }
            Due.is("told(1) at the end", all, x.told(1));
            Due.is("told(0) at the end", 17, x.told(0));
            Due.is("value(0) at the end", 3, x.value(0));
            Due.is("value(1) at the end", 2, x.value(1));
            Due.is("value(2) at the end", 0, x.value(2));
        }
    }

    private static void spentBeforeTheEndWithoutPlan() {
        Due.sentence("Promise 7: 1 it has ended without a plan, 2 it is spent");
        OrderBounds x = Made.oneByOne(20, 1, 21, 1);
        Due.is("run(20)", 2, x.run(20));
        Due.is("run(0)", 2, x.run(0));
        Due.is("run(1)", 1, x.run(1));
        Due.is("told(1)", 21, x.told(1));
        Due.refused("told(0)", Due.TURN, () -> x.told(0));
        OrderBounds y = Made.oneByOne(20, 1, 21, 1);
        Due.is("run(21) at once", 1, y.run(21));
    }

    private static void afterTheEnd() {
        Due.sentence("Promise 7: 0 the search has ended, 1 it has ended without a plan: again and again");
        OrderBounds x = State.ENDED_WITH_THE_BEST.make();
        OrderBounds y = State.ENDED_WITHOUT_PLAN.make();
        int steps = x.told(1);
        int others = y.told(1);
        for (int s : Edges.inside(0, 100000)) {
            Due.is("run(" + s + ")", 0, x.run(s));
            Due.is("told(1)", steps, x.told(1));
            Due.is("told(0)", 17, x.told(0));
            Due.is("run(" + s + ") without a plan", 1, y.run(s));
            Due.is("told(1) without a plan", others, y.told(1));
        }
    }

    private static void withoutColumns() {
        Due.sentence("Without columns there is one plan, of worth 0 and no step");
        for (int s : Edges.inside(0, 100000)) {
            OrderBounds x = new OrderBounds();
            Due.is("run(" + s + ")", 0, x.run(s));
            Due.is("told(0)", 0, x.told(0));
            Due.is("told(1)", 0, x.told(1));
            Due.refused("value(0)", Due.INDEX, () -> x.value(0));
        }
    }

    private static void withoutColumnsButWithRows() {
        Due.sentence("Without columns there is one plan, if the rows and cuts hold of it");
        int[] rights = {-10000, -1, 0, 1, 10000};
        for (int count = 0; count < 4; count++) {
            for (int v : rights) {
                OrderBounds above = new OrderBounds();
                Made.addRows(above, count);
                above.row(0, v);
                Due.is("not above " + v, v >= 0 ? 0 : 1, above.run(0));
                OrderBounds below = new OrderBounds();
                Made.addRows(below, count);
                below.row(1, v);
                Due.is("not below " + v, v <= 0 ? 0 : 1, below.run(100000));
                Due.is("told(1)", 0, below.told(1));
                if (v > 0) {
                    Due.refused("told(0)", Due.TURN, () -> below.told(0));
                }
            }
        }
    }

    private static void aColumnAfterTheEndWithoutColumns() {
        Due.sentence("Without columns there is one plan: a column begins the search anew");
        OrderBounds x = new OrderBounds();
        x.run(0);
        x.column(2, 3);
        Due.refused("told(0)", Due.TURN, () -> x.told(0));
        Due.refused("value(0)", Due.TURN, () -> x.value(0));
        Due.is("run(0)", 2, x.run(0));
        Due.is("run(4)", 0, x.run(4));
        Due.is("told(0)", 6, x.told(0));
    }

    private static void fromTheTopDown() {
        Due.sentence("THE SEARCH gives columns numbers, column by column, from the top down; each is a STEP");
        OrderBounds x = new OrderBounds();
        x.column(-1, 3);
        for (int n = 3; n >= 0; n--) {
            Due.is("run(1)", n > 0 ? 2 : 0, x.run(1));
            Due.is("value(0)", n, x.value(0));
            Due.is("told(0)", -n, x.told(0));
            Due.is("told(1)", 4 - n, x.told(1));
        }
    }

    /** 2, then 1 (can't hold) and 0 of worth 2; then 1, which could come to 2 with column 1, and 0. */
    private static void notAboveTheBest() {
        Due.sentence("No further column is tried when worth and hope are not above the best one's: the same");
        OrderBounds x = twoColumns(1);
        Due.is("run(100)", 0, x.run(100));
        Due.is("told(0)", 2, x.told(0));
        Due.is("told(1)", 5, x.told(1));
        Due.is("value(0)", 2, x.value(0));
    }

    /** As above, but 1 could come to 3, and does. */
    private static void oneAboveTheBest() {
        Due.sentence("No further column is tried when worth and hope are not above the best one's: one above");
        OrderBounds x = twoColumns(2);
        Due.is("run(100)", 0, x.run(100));
        Due.is("told(0)", 3, x.told(0));
        Due.is("told(1)", 3 + 1 + 2 + 1, x.told(1));
        Due.is("value(0)", 1, x.value(0));
        Due.is("value(1)", 1, x.value(1));
    }

    private static OrderBounds twoColumns(int secondWorth) {
        OrderBounds x = new OrderBounds();
        x.column(1, 2);
        x.column(secondWorth, 1);
        x.row(0, 2);
        x.factor(0, 0, 1);
        x.factor(0, 1, 1);
        return x;
    }

    private static void nothingFoundIsNoWorth() {
        Due.sentence("the best one's found: while none is, any worth is tried");
        OrderBounds x = new OrderBounds();
        for (int k = 0; k < 5; k++) {
            x.column(-1000, 20);
        }
        x.row(1, 1000);
        for (int k = 0; k < 5; k++) {
            x.factor(0, k, 10);
        }
        Due.is("run(5)", 2, x.run(5));
        Due.is("told(0)", -100000, x.told(0));
        Due.is("run(100000)", 0, x.run(100000));
        Due.is("told(0)", -100000, x.told(0));
        OrderBounds y = Made.forcedToOne(-1);
        Due.is("run(1)", 2, y.run(1));
        Due.is("told(0)", -1, y.told(0));
        OrderBounds z = Made.forcedToOne(0);
        Due.is("run(1)", 2, z.run(1));
        Due.is("told(0)", 0, z.told(0));
    }

    /** 2 needs 2 of column 1, of worth 0; 1 comes to 1 with none of it. */
    private static void negativeWorthsAddNothing() {
        Due.sentence("the most that all later columns can add (their worths times tops, where above 0)");
        OrderBounds x = new OrderBounds();
        x.column(1, 2);
        x.column(-1, 2);
        x.row(0, 2);
        x.factor(0, 0, 2);
        x.factor(0, 1, -1);
        Due.is("run(100)", 0, x.run(100));
        Due.is("told(0)", 1, x.told(0));
        Due.is("value(0)", 1, x.value(0));
        Due.is("value(1)", 0, x.value(1));
        Due.is("told(1)", 1 + 3 + 1 + 3 + 1, x.told(1));
    }

    /** The first number of column 0 finds a plan of worth 0; with its last one no number of column 1 is tried. */
    private static void hopeOfZero() {
        Due.sentence("the most that all later columns can add (.. where above 0): 0 when none is");
        for (int worth : new int[] {0, -1, -1000}) {
            OrderBounds x = new OrderBounds();
            x.column(0, 1);
            x.column(worth, 2);
            Due.is("run(4)", 2, x.run(4));
            Due.is("told(0)", 0, x.told(0));
            Due.is("run(1)", 0, x.run(1));
            Due.is("told(1)", 1 + 3 + 1, x.told(1));
        }
        OrderBounds y = new OrderBounds();
        y.column(1, 1);
        y.column(1000, 0);
        Due.is("run(3), a top of 0", 0, y.run(3));
        Due.is("told(1)", 1 + 1 + 1, y.told(1));
    }

    /** Column 0 adds 2 each, column 1 at least -3: 2 comes to 1. */
    private static void canNotHoldNotAbove() {
        Due.sentence("NOT ABOVE: the sum so far and the least that they can add are above its right side");
        Due.is("right side 0", 1 + 1 + 4 + 1, stepsOf(0, 0));
        Due.is("right side 1", 1 + 4 + 1 + 1, stepsOf(0, 1));
        Due.is("right side -3", 1 + 1 + 1 + 4, stepsOf(0, -3));
        Due.is("right side -4", 3, stepsOf(0, -4));
    }

    /** The same with all factors the other way round. */
    private static void canNotHoldNotBelow() {
        Due.sentence("NOT BELOW: the sum so far and the most that they can add are below it");
        Due.is("right side 0", 1 + 1 + 4 + 1, stepsOf(1, 0));
        Due.is("right side -1", 1 + 4 + 1 + 1, stepsOf(1, -1));
        Due.is("right side 3", 1 + 1 + 1 + 4, stepsOf(1, 3));
        Due.is("right side 4", 3, stepsOf(1, 4));
    }

    private static int stepsOf(int kind, int right) {
        OrderBounds x = new OrderBounds();
        x.column(1, 2);
        x.column(0, 3);
        x.row(kind, right);
        x.factor(0, 0, kind == 0 ? 2 : -2);
        x.factor(0, 1, kind == 0 ? -1 : 1);
        x.run(100000);
        return x.told(1);
    }

    /** 2 and 2 are not 2; 2 and 1 are not; 2 and 0 are. */
    private static void cutsCanNotHold() {
        Due.sentence("or when some row or cut can't hold any more: a cut");
        OrderBounds x = Made.withTops(2, 2, 1);
        x.cut(0, 1);
        Due.is("run(4)", 2, x.run(4));
        Due.refused("told(0)", Due.TURN, () -> x.told(0));
        Due.is("run(1)", 2, x.run(1));
        Due.is("told(0)", 3, x.told(0));
        Due.is("value(1)", 0, x.value(1));
    }

    /** Each of the 4 rows and 4 cuts, by itself, keeps the search from a plan or from a better one. */
    private static void eachOfAllRowsAndCuts() {
        Due.sentence("some row or cut: each one of them");
        for (int i = 0; i < 4; i++) {
            OrderBounds x = Made.withColumns(5);
            for (int j = 0; j < 4; j++) {
                x.row(1, 0);
            }
            x.right(i, 1);
            Due.is("row " + i + " can't hold", 1, x.run(100000));
            Due.is("told(1)", 3, x.told(1));
            OrderBounds y = Made.withColumns(5);
            Made.addCuts(y, 4);
            Made.addRows(y, 4);
            y.factor(i, i + 1, 10);
            y.right(i, 0);
            Due.is("row " + i + " of all", 0, y.run(100000));
            Due.is("value(" + (i + 1) + ")", 0, y.value(i + 1));
        }
        OrderBounds z = Made.withColumns(5);
        Made.addCuts(z, 4);
        Due.is("run", 0, z.run(100000));
        Due.is("told(0) with 4 cuts", 6, z.told(0));
    }

    private static void firstOfTheBest() {
        Due.sentence("of these the first one: the greatest number of column 0, then of column 1, ..");
        OrderBounds x = Made.withTops(4, 4, 4, 4, 4);
        x.row(0, 9);
        for (int k = 0; k < 5; k++) {
            x.factor(0, k, 1);
        }
        Due.is("run", 0, x.run(100000));
        Due.is("told(0)", 9, x.told(0));
        int[] due = {4, 4, 1, 0, 0};
        for (int k = 0; k < 5; k++) {
            Due.is("value(" + k + ")", due[k], x.value(k));
        }
        OrderBounds y = new OrderBounds();
        y.column(0, 20);
        y.column(0, 20);
        Due.is("run", 0, y.run(100000));
        Due.is("value(0), no worth", 20, y.value(0));
        Due.is("value(1), no worth", 20, y.value(1));
    }

    private static void topsOfZero() {
        Due.sentence("from 0 to a top of 0: one number, one step");
        for (int count = 1; count <= 5; count++) {
            OrderBounds x = new OrderBounds();
            for (int k = 0; k < count; k++) {
                x.column(1000, 0);
            }
            Due.is("run(" + (count - 1) + ")", 2, x.run(count - 1));
            Due.is("run(1)", 0, x.run(1));
            Due.is("told(0)", 0, x.told(0));
            Due.is("told(1)", count, x.told(1));
        }
    }
}
