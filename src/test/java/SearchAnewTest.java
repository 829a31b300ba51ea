import java.util.LinkedHashMap;
import java.util.Map;
import java.util.function.Consumer;

/** What begins the search anew, and what does not. */
public final class SearchAnewTest {
    private static final State[] STATES = {
        State.NOT_YET_RUN, State.SPENT_WITH_NOTHING_FOUND, State.SPENT_WITH_A_PLAN,
        State.ENDED_WITH_THE_BEST, State.ENDED_WITHOUT_PLAN
    };

    public static void main(String[] args) {
        beginsAnew();
        endedWithoutColumns();
        goesOn();
        Due.end();
    }

    private static Map<String, Consumer<OrderBounds>> tellers() {
        Map<String, Consumer<OrderBounds>> m = new LinkedHashMap<>();
        m.put("a column", x -> x.column(7, 1));
        m.put("a column of top 0", x -> x.column(0, 0));
        m.put("a row", x -> x.row(0, 0));
        m.put("a row that never holds", x -> x.row(1, 10000));
        m.put("a factor", x -> x.factor(0, 1, 2));
        m.put("a factor that is so already", x -> x.factor(0, 0, 2));
        m.put("a factor that is 0 already", x -> x.factor(0, 2, 0));
        m.put("a right side", x -> x.right(0, 11));
        m.put("a right side that is so already", x -> x.right(0, 12));
        m.put("a cut", x -> x.cut(1, 2));
        return m;
    }

    private static void beginsAnew() {
        for (State state : STATES) {
            tellers().forEach((name, teller) -> {
                Due.sentence("Whatever is told anew begins the search anew: " + name);
                OrderBounds x = state.make();
                teller.accept(x);
                isAtItsBeginning(state + ", " + name, x);
                OrderBounds fresh = neverRun(state);
                teller.accept(fresh);
                goTheSameWay(state + ", " + name, x, fresh);
            });
        }
    }

    private static OrderBounds neverRun(State state) {
        OrderBounds x = State.NOT_YET_RUN.make();
        if (state == State.ENDED_WITHOUT_PLAN) {
            x.right(1, 100);
        }
        return x;
    }

    private static void isAtItsBeginning(String what, OrderBounds x) {
        Due.refused(what + ": told(0)", Due.TURN, () -> x.told(0));
        for (int k = 0; k < 3; k++) {
            int column = k;
            Due.refused(what + ": value(" + k + ")", Due.TURN, () -> x.value(column));
        }
        Due.is(what + ": told(1)", 0, x.told(1));
        Due.is(what + ": run(0)", 2, x.run(0));
        Due.is(what + ": told(1) behind run(0)", 0, x.told(1));
    }

    private static void goTheSameWay(String what, OrderBounds x, OrderBounds fresh) {
        for (int i = 0; i < 30; i++) {
            Due.is(what + ": run(1)", fresh.run(1), x.run(1));
            Due.is(what + ": told(1)", fresh.told(1), x.told(1));
            String due = Shown.answerOf(() -> fresh.told(0));
            Due.isTrue(what + ": told(0) is not " + due, Shown.answerOf(() -> x.told(0)).equals(due));
        }
        Due.is(what + ": run(100000)", fresh.run(100000), x.run(100000));
        Due.isTrue(what + ": the end is another", Shown.of(x).equals(Shown.of(fresh)));
    }

    private static void endedWithoutColumns() {
        Due.sentence("Whatever is told anew begins the search anew: without columns");
        OrderBounds x = new OrderBounds();
        x.run(0);
        Due.is("told(0)", 0, x.told(0));
        x.row(0, 0);
        Due.refused("told(0) behind a row", Due.TURN, () -> x.told(0));
        x.run(0);
        Due.is("told(0)", 0, x.told(0));
        x.right(0, 0);
        Due.refused("told(0) behind a right side", Due.TURN, () -> x.told(0));
        x.run(0);
        x.right(0, -1);
        Due.refused("told(0) behind another right side", Due.TURN, () -> x.told(0));
        Due.is("run(0)", 1, x.run(0));
        x.column(1, 0);
        Due.is("run(0) behind a column", 2, x.run(0));
        Due.is("run(1)", 1, x.run(1));
    }

    private static void goesOn() {
        Due.sentence("begins the search anew: a column, row, factor, right side, cut, and nothing else");
        Map<String, Consumer<OrderBounds>> others = new LinkedHashMap<>();
        others.put("follow", x -> x.follow(2, 1));
        others.put("multiplier", x -> x.multiplier(0, 5));
        others.put("multiplier 0", x -> x.multiplier(2, 0));
        others.put("run(0)", x -> x.run(0));
        others.put("certificate", OrderBounds::certificate);
        others.put("contradiction", OrderBounds::contradiction);
        others.put("check", x -> x.check(1));
        others.put("chain", x -> x.chain(0));
        for (State state : STATES) {
            others.forEach((name, other) -> {
                OrderBounds x = state.make();
                OrderBounds untouched = state.make();
                other.accept(x);
                Due.is(state + ", " + name + ": told(1)", untouched.told(1), x.told(1));
                String due = Shown.answerOf(() -> untouched.told(0));
                Due.isTrue(state + ", " + name + ": told(0)", Shown.answerOf(() -> x.told(0)).equals(due));
                Due.is(state + ", " + name + ": run(3)", untouched.run(3), x.run(3));
                Due.is(state + ", " + name + ": told(1)", untouched.told(1), x.told(1));
                Due.is(state + ", " + name + ": run(100000)", untouched.run(100000), x.run(100000));
                Due.is(state + ", " + name + ": told(1)", untouched.told(1), x.told(1));
            });
        }
    }
}
