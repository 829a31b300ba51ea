/** The edges of promise 8. */
public final class Edge08ToldTest {
    public static void main(String[] args) {
        noSuchWhat();
        indexBeforeTurn();
        noneWasFound();
        stepsAreToldWithoutAPlan();
        greatestAndLeastWorth();
        stepsOfAllRuns();
        mostSteps();
        Due.end();
    }

    private static void noSuchWhat() {
        Due.sentence("Promise 8, index: no such what");
        OrderBounds x = State.ENDED_WITH_THE_BEST.make();
        for (int w : Edges.outside(0, 1)) {
            Due.refused("told(" + w + ")", Due.INDEX, () -> x.told(w));
        }
        Due.is("told(0)", 17, x.told(0));
    }

    private static void indexBeforeTurn() {
        Due.sentence("Refusals: index before turn, told");
        for (State state : State.values()) {
            OrderBounds x = state.make();
            for (int w : Edges.outside(0, 1)) {
                Due.refused(state + ": told(" + w + ")", Due.INDEX, () -> x.told(w));
            }
        }
    }

    private static void noneWasFound() {
        Due.sentence("Promise 8, turn: none was found (what 0)");
        State[] none = {State.NEW, State.COLUMNS_ALONE, State.NOT_YET_RUN, State.SPENT_WITH_NOTHING_FOUND,
            State.ENDED_WITHOUT_PLAN};
        for (State state : none) {
            OrderBounds x = state.make();
            Due.refused(state + ": told(0)", Due.TURN, () -> x.told(0));
        }
        OrderBounds y = new OrderBounds();
        y.row(1, 1);
        y.run(0);
        Due.refused("told(0) without columns and plan", Due.TURN, () -> y.told(0));
    }

    private static void stepsAreToldWithoutAPlan() {
        Due.sentence("Promise 8, turn: none was found (what 0), not what 1");
        Due.is("new: told(1)", 0, new OrderBounds().told(1));
        Due.is("not yet run: told(1)", 0, State.NOT_YET_RUN.make().told(1));
        Due.is("spent: told(1)", State.STEPS_BEFORE_A_PLAN, State.SPENT_WITH_NOTHING_FOUND.make().told(1));
        OrderBounds x = Made.oneByOne(6, 1, 7, 1);
        x.run(100);
        Due.is("without a plan: told(1)", 7, x.told(1));
    }

    private static void greatestAndLeastWorth() {
        Due.sentence("Promise 8: what 0 the worth of the best found so far: the greatest and the least, and below 0");
        OrderBounds x = new OrderBounds();
        OrderBounds y = new OrderBounds();
        y.row(1, 100);
        for (int k = 0; k < 5; k++) {
            x.column(1000, 20);
            y.column(-1000, 20);
            y.factor(0, k, 1);
        }
        x.run(5);
        Due.is("the greatest", 100000, x.told(0));
        y.run(5);
        Due.is("the least", -100000, y.told(0));
    }

    private static void stepsOfAllRuns() {
        Due.sentence("Promise 8: what 1 its steps (of all run() since the search began)");
        OrderBounds x = Made.withTops(20, 20);
        x.row(1, 400);
        x.factor(0, 0, 10);
        x.factor(0, 1, 10);
        int all = 0;
        for (int s : new int[] {1, 0, 2, 3, 0, 5, 7}) {
            x.run(s);
            all += s;
            Due.is("told(1)", all, x.told(1));
        }
        x.right(0, 400);
        Due.is("told(1) of the search anew", 0, x.told(1));
        x.run(4);
        Due.is("told(1) of the search anew, run", 4, x.told(1));
    }

    private static void mostSteps() {
        Due.sentence("each number that is given is a STEP: as many as there can be");
        OrderBounds x = Made.withTops(20, 20, 20, 20, 20);
        x.row(0, 1);
        x.row(1, 1);
        x.factor(0, 4, 2);
        x.factor(1, 4, 2);
        int all = 21 + 21 * 21 + 21 * 21 * 21 + 21 * 21 * 21 * 21 + 21 * 21 * 21 * 21 * 21;
        for (int given = 100000; given < all; given += 100000) {
            Due.is("run(100000)", 2, x.run(100000));
            Due.is("told(1)", given, x.told(1));
        }
        Due.is("all but one", 2, x.run(all % 100000 - 1));
        Due.is("the last", 1, x.run(1));
        Due.is("told(1)", all, x.told(1));
    }
}
