import java.util.LinkedHashMap;
import java.util.Map;
import java.util.function.Consumer;

/** What only asks (told, value, certificate, contradiction, check, chain) changes nothing that a later call shows. */
public final class AskingChangesNothingTest {
    private static final Map<String, Consumer<OrderBounds>> CALLS = new LinkedHashMap<>();

    public static void main(String[] args) {
        statesAreWhatTheirNamesSay();
        CALLS.put("told(0)", x -> Shown.answerOf(() -> x.told(0)));
        CALLS.put("told(1)", x -> x.told(1));
        CALLS.put("value(0)", x -> Shown.answerOf(() -> x.value(0)));
        CALLS.put("value(2)", x -> Shown.answerOf(() -> x.value(2)));
        CALLS.put("certificate()", OrderBounds::certificate);
        CALLS.put("contradiction()", OrderBounds::contradiction);
        CALLS.put("check(0)", x -> x.check(0));
        CALLS.put("check(-1)", x -> x.check(-1));
        CALLS.put("check(3, 2)", x -> x.check(Made.packed(3, 2)));
        CALLS.put("chain(0)", x -> x.chain(0));
        CALLS.put("chain(4)", x -> x.chain(4));
        for (State s : State.values()) {
            String untouched = Shown.of(s.make());
            CALLS.forEach((name, call) -> {
                OrderBounds x = s.make();
                call.accept(x);
                call.accept(x);
                Due.isTrue(s + ": " + name + " changed something", Shown.of(x).equals(untouched));
            });
        }
        Due.end();
    }

    /** Without this the tests over all states could go by the wrong ones. */
    private static void statesAreWhatTheirNamesSay() {
        isIn(State.NOT_YET_RUN, 2, false, 0);
        isIn(State.SPENT_WITH_NOTHING_FOUND, 2, false, State.STEPS_BEFORE_A_PLAN);
        isIn(State.SPENT_WITH_A_PLAN, 2, true, State.STEPS_WITH_A_PLAN);
        isIn(State.ENDED_WITHOUT_COLUMNS, 0, true, 0);
        Due.is("ENDED_WITH_THE_BEST: run(0)", 0, State.ENDED_WITH_THE_BEST.make().run(0));
        Due.is("ENDED_WITHOUT_PLAN: run(0)", 1, State.ENDED_WITHOUT_PLAN.make().run(0));
        Due.is("FULL: run(0)", 2, State.FULL.make().run(0));
    }

    private static void isIn(State state, int answer, boolean found, int steps) {
        Due.is(state + ": run(0)", answer, state.make().run(0));
        Due.is(state + ": told(1)", steps, state.make().told(1));
        OrderBounds x = state.make();
        if (found) {
            Due.isTrue(state + ": told(0)", !Shown.answerOf(() -> x.told(0)).startsWith("java"));
        } else {
            Due.refused(state + ": told(0)", Due.TURN, () -> x.told(0));
        }
    }
}
