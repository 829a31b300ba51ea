/** The edges of promise 9. */
public final class Edge09ValueTest {
    public static void main(String[] args) {
        noSuchColumn();
        indexBeforeTurn();
        noneWasFound();
        leastAndGreatestNumber();
        bestSoFar();
        Due.end();
    }

    private static void noSuchColumn() {
        Due.sentence("Promise 9, index: no such column");
        for (int count = 0; count <= 5; count++) {
            OrderBounds x = Made.withColumns(count);
            x.run(1000);
            for (int c : Edges.noIndex(count)) {
                Due.refused("value(" + c + ") of " + count, Due.INDEX, () -> x.value(c));
            }
            for (int k = 0; k < count; k++) {
                Due.is("value(" + k + ") of " + count, 2, x.value(k));
            }
        }
    }

    private static void indexBeforeTurn() {
        Due.sentence("Refusals: index before turn, value");
        for (int count = 0; count <= 5; count++) {
            OrderBounds x = Made.withColumns(count);
            for (int c : Edges.noIndex(count)) {
                Due.refused("value(" + c + ") of " + count, Due.INDEX, () -> x.value(c));
            }
        }
    }

    private static void noneWasFound() {
        Due.sentence("Promise 9, turn: none was found");
        State[] none = {State.COLUMNS_ALONE, State.NOT_YET_RUN, State.SPENT_WITH_NOTHING_FOUND,
            State.ENDED_WITHOUT_PLAN};
        for (State state : none) {
            OrderBounds x = state.make();
            for (int k = 0; k < 3; k++) {
                int column = k;
                Due.refused(state + ": value(" + k + ")", Due.TURN, () -> x.value(column));
            }
        }
    }

    private static void leastAndGreatestNumber() {
        Due.sentence("A PLAN gives each column a whole number from 0 to its top");
        OrderBounds x = new OrderBounds();
        for (int k = 0; k < 5; k++) {
            x.column(k % 2 == 0 ? 1 : -1, 20 - k);
        }
        Due.is("run", 0, x.run(100000));
        for (int k = 0; k < 5; k++) {
            Due.is("value(" + k + ")", k % 2 == 0 ? 20 - k : 0, x.value(k));
        }
    }

    private static void bestSoFar() {
        Due.sentence("Promise 9: A column's number in the best found so far, not in what is tried");
        OrderBounds x = Made.withTops(2, 2);
        x.run(2);
        for (int s = 0; s < 5; s++) {
            Due.is("value(0)", 2, x.value(0));
            Due.is("value(1)", 2, x.value(1));
            x.run(1);
        }
    }
}
