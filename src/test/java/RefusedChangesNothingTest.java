import java.util.ArrayList;
import java.util.LinkedHashMap;
import java.util.List;
import java.util.Map;
import java.util.function.ToLongFunction;

/** A refused call changes nothing that a later call shows, whatever state it meets. */
public final class RefusedChangesNothingTest {
    private static final List<String> REFUSALS = List.of(
            Due.INDEX.getName(), Due.TURN.getName(), Due.RANGE.getName(), Due.MEANING.getName());

    private final Map<String, ToLongFunction<OrderBounds>> calls = new LinkedHashMap<>();
    private final Map<String, Integer> refusedOf = new LinkedHashMap<>();

    public static void main(String[] args) {
        Due.sentence("Refusals");
        RefusedChangesNothingTest t = new RefusedChangesNothingTest();
        t.addColumnsAndRows();
        t.addFactorsAndRights();
        t.addPairs();
        t.addSearch();
        t.addMultipliersAndChains();
        for (State s : State.values()) {
            t.tryAll(s);
        }
        t.eachMethodWasRefused();
        Due.end();
    }

    private interface Call {
        void of(OrderBounds x);
    }

    private void add(String name, Call call) {
        calls.put(name, x -> {
            call.of(x);
            return 0;
        });
    }

    private void tryAll(State state) {
        String untouched = Shown.of(state.make());
        for (Map.Entry<String, ToLongFunction<OrderBounds>> e : calls.entrySet()) {
            OrderBounds x = state.make();
            String answer = Shown.answerOf(() -> e.getValue().applyAsLong(x));
            if (!answer.equals("0")) {
                String what = state + ": " + e.getKey() + " threw " + answer;
                Due.isTrue(what + ", which is none of the refusals", REFUSALS.contains(answer));
                Due.isTrue(what + ", and changed something", Shown.of(x).equals(untouched));
                refusedOf.merge(methodOf(e.getKey()), 1, Integer::sum);
            }
        }
    }

    private static String methodOf(String call) {
        return call.substring(0, call.indexOf('('));
    }

    private void eachMethodWasRefused() {
        List<String> all = new ArrayList<>(List.of(
                "column", "row", "factor", "right", "cut", "run", "told", "value", "multiplier", "follow", "chain"));
        all.removeAll(refusedOf.keySet());
        Due.isTrue("never refused: " + all, all.isEmpty());
    }

    private void addColumnsAndRows() {
        add("column(1, 1)", x -> x.column(1, 1));
        for (int w : Edges.outside(-1000, 1000)) {
            add("column(" + w + ", 1)", x -> x.column(w, 1));
        }
        for (int t : Edges.outside(0, 20)) {
            add("column(1, " + t + ")", x -> x.column(1, t));
        }
        add("row(0, 1)", x -> x.row(0, 1));
        add("row(1, 1)", x -> x.row(1, 1));
        for (int k : Edges.outside(0, 1)) {
            add("row(" + k + ", 1)", x -> x.row(k, 1));
        }
        for (int v : Edges.outside(-10000, 10000)) {
            add("row(0, " + v + ")", x -> x.row(0, v));
            add("row(1, " + v + ")", x -> x.row(1, v));
        }
    }

    private void addFactorsAndRights() {
        for (int n : Edges.noIndex(4)) {
            add("factor(" + n + ", 0, 1)", x -> x.factor(n, 0, 1));
            add("right(" + n + ", 1)", x -> x.right(n, 1));
        }
        for (int n : Edges.noIndex(5)) {
            add("factor(0, " + n + ", 1)", x -> x.factor(0, n, 1));
        }
        for (int i = 0; i < 5; i++) {
            int row = i;
            add("right(" + row + ", 10001)", x -> x.right(row, 10001));
            add("right(" + row + ", -10001)", x -> x.right(row, -10001));
            for (int k = 0; k < 6; k++) {
                int column = k;
                add("factor(" + row + ", " + column + ", 11)", x -> x.factor(row, column, 11));
                add("factor(" + row + ", " + column + ", -11)", x -> x.factor(row, column, -11));
                add("factor(" + row + ", " + column + ", 1)", x -> x.factor(row, column, 1));
            }
            add("right(" + row + ", 1)", x -> x.right(row, 1));
        }
    }

    private void addPairs() {
        for (int n : Edges.noIndex(5)) {
            add("cut(0, " + n + ")", x -> x.cut(0, n));
            add("cut(" + n + ", 0)", x -> x.cut(n, 0));
            add("follow(0, " + n + ")", x -> x.follow(0, n));
            add("follow(" + n + ", 0)", x -> x.follow(n, 0));
        }
        for (int i = 0; i < 25; i++) {
            int a = i / 5;
            int b = i % 5;
            add("cut(" + a + ", " + b + ")", x -> x.cut(a, b));
            add("follow(" + a + ", " + b + ")", x -> x.follow(a, b));
        }
    }

    private void addSearch() {
        for (int v : Edges.outside(0, 100000)) {
            add("run(" + v + ")", x -> x.run(v));
        }
        for (int w : Edges.outside(0, 1)) {
            add("told(" + w + ")", x -> x.told(w));
        }
        add("told(0)", x -> x.told(0));
        for (int n : Edges.noIndex(5)) {
            add("value(" + n + ")", x -> x.value(n));
        }
        for (int k = 0; k < 5; k++) {
            int column = k;
            add("value(" + k + ")", x -> x.value(column));
        }
    }

    private void addMultipliersAndChains() {
        for (int n : Edges.noIndex(8)) {
            add("multiplier(" + n + ", 0)", x -> x.multiplier(n, 0));
        }
        for (int i = 0; i < 9; i++) {
            int line = i;
            for (int v : new int[] {1, -1, 1000001, -1000001, Integer.MIN_VALUE, Integer.MAX_VALUE}) {
                add("multiplier(" + line + ", " + v + ")", x -> x.multiplier(line, v));
            }
        }
        add("chain(-1)", x -> x.chain(-1));
        add("chain(least)", x -> x.chain(Integer.MIN_VALUE));
    }
}
