import java.math.BigDecimal;
import java.math.RoundingMode;
import java.util.ArrayList;
import java.util.LinkedHashMap;
import java.util.List;
import java.util.Map;

/** A second, plain reading of the document: it goes through everything, and keeps the whole search as a log. */
final class Model {
    private static final class Row {
        int kind;
        int right;
        int multiplier;
        final Map<Integer, Integer> factors = new LinkedHashMap<>();

        int factor(int column) {
            return factors.getOrDefault(column, 0);
        }

        boolean holds(int sum) {
            return kind == 0 ? sum <= right : sum >= right;
        }
    }

    private final List<int[]> columns = new ArrayList<>();
    private final List<Row> rows = new ArrayList<>();
    private final List<Row> cuts = new ArrayList<>();
    private final List<List<Integer>> follows = new ArrayList<>();

    // The best plan behind each step of the whole search (null: none), made when it is first gone on with.
    private List<int[]> log = null;
    private int[] best = null;
    private int done = 0;
    private boolean wasRun = false;

    private List<Row> lines() {
        List<Row> all = new ArrayList<>(rows);
        all.addAll(cuts);
        return all;
    }

    private void anew() {
        log = null;
        best = null;
        done = 0;
        wasRun = false;
    }

    private boolean noColumn(int c) {
        return c < 0 || c >= columns.size();
    }

    long column(int worth, int top) {
        if (worth < -1000 || worth > 1000 || top < 0 || top > 20) {
            throw new IllegalArgumentException();
        }
        if (columns.size() == 5) {
            throw new UnsupportedOperationException();
        }
        columns.add(new int[] {worth, top});
        anew();
        return columns.size() - 1;
    }

    long row(int kind, int right) {
        if (kind < 0 || kind > 1 || right < -10000 || right > 10000) {
            throw new IllegalArgumentException();
        }
        if (rows.size() == 4) {
            throw new UnsupportedOperationException();
        }
        Row r = new Row();
        r.kind = kind;
        r.right = right;
        rows.add(r);
        lines().forEach(l -> l.multiplier = 0);
        anew();
        return rows.size() - 1;
    }

    void factor(int row, int column, int v) {
        if (row < 0 || row >= rows.size() || noColumn(column)) {
            throw new IndexOutOfBoundsException();
        }
        if (v < -10 || v > 10) {
            throw new IllegalArgumentException();
        }
        rows.get(row).factors.put(column, v);
        anew();
    }

    void right(int row, int v) {
        if (row < 0 || row >= rows.size()) {
            throw new IndexOutOfBoundsException();
        }
        if (v < -10000 || v > 10000) {
            throw new IllegalArgumentException();
        }
        rows.get(row).right = v;
        anew();
    }

    long cut(int a, int b) {
        if (noColumn(a) || noColumn(b) || a == b) {
            throw new IndexOutOfBoundsException();
        }
        boolean has = cuts.stream().anyMatch(c -> c.factors.containsKey(a) && c.factors.containsKey(b));
        if (cuts.size() == 4 || has) {
            throw new UnsupportedOperationException();
        }
        Row r = new Row();
        r.right = Math.max(columns.get(a)[1], columns.get(b)[1]);
        r.factors.put(a, 1);
        r.factors.put(b, 1);
        cuts.add(r);
        lines().forEach(l -> l.multiplier = 0);
        anew();
        return cuts.size();
    }

    long run(int steps) {
        if (steps < 0 || steps > 100000) {
            throw new IllegalArgumentException();
        }
        if (log == null) {
            log = new ArrayList<>();
            best = null;
            if (columns.isEmpty()) {
                best = lines().stream().allMatch(l -> l.holds(0)) ? new int[0] : null;
            } else {
                search(new int[columns.size()], 0);
            }
        }
        wasRun = true;
        done = Math.min(log.size(), done + steps);
        if (done < log.size()) {
            return 2;
        }
        return found() == null ? 1 : 0;
    }

    private void search(int[] numbers, int k) {
        for (int v = columns.get(k)[1]; v >= 0; v--) {
            numbers[k] = v;
            boolean tried = mayGoOn(numbers, k);
            if (tried && k == columns.size() - 1) {
                best = numbers.clone();
            }
            log.add(best);
            if (tried && k < columns.size() - 1) {
                search(numbers, k + 1);
            }
        }
    }

    private boolean mayGoOn(int[] numbers, int k) {
        int most = 0;
        for (int c = 0; c < columns.size(); c++) {
            int worth = columns.get(c)[0];
            most += c <= k ? worth * numbers[c] : worth > 0 ? worth * columns.get(c)[1] : 0;
        }
        if (best != null && most <= worthOf(best)) {
            return false;
        }
        for (Row l : lines()) {
            int sum = 0;
            for (int c = 0; c < columns.size(); c++) {
                int f = l.factor(c);
                boolean helps = l.kind == 0 ? f < 0 : f > 0;
                sum += c <= k ? f * numbers[c] : helps ? f * columns.get(c)[1] : 0;
            }
            if (!l.holds(sum)) {
                return false;
            }
        }
        return true;
    }

    private int worthOf(int[] numbers) {
        int worth = 0;
        for (int c = 0; c < numbers.length; c++) {
            worth += columns.get(c)[0] * numbers[c];
        }
        return worth;
    }

    /** The best found so far, or null. */
    int[] found() {
        if (columns.isEmpty()) {
            return wasRun ? best : null;
        }
        return done == 0 ? null : log.get(done - 1);
    }

    boolean hasEnded() {
        return wasRun && done == log.size();
    }

    long told(int what) {
        if (what < 0 || what > 1) {
            throw new IndexOutOfBoundsException();
        }
        if (what == 1) {
            return done;
        }
        if (found() == null) {
            throw new IllegalStateException();
        }
        return worthOf(found());
    }

    long value(int column) {
        if (noColumn(column)) {
            throw new IndexOutOfBoundsException();
        }
        if (found() == null) {
            throw new IllegalStateException();
        }
        return found()[column];
    }

    void multiplier(int row, int v) {
        if (row < 0 || row >= lines().size()) {
            throw new IndexOutOfBoundsException();
        }
        Row l = lines().get(row);
        if (l.kind == 0 ? v < 0 || v > 1000000 : v > 0 || v < -1000000) {
            throw new IllegalArgumentException();
        }
        l.multiplier = v;
    }

    long certificate() {
        BigDecimal sum = BigDecimal.ZERO;
        for (Row l : lines()) {
            sum = sum.add(BigDecimal.valueOf(l.multiplier, 3).multiply(BigDecimal.valueOf(l.right)));
        }
        for (int c = 0; c < columns.size(); c++) {
            BigDecimal rest = BigDecimal.valueOf(columns.get(c)[0]);
            for (Row l : lines()) {
                rest = rest.subtract(BigDecimal.valueOf(l.multiplier, 3).multiply(BigDecimal.valueOf(l.factor(c))));
            }
            if (rest.signum() > 0) {
                sum = sum.add(rest.multiply(BigDecimal.valueOf(columns.get(c)[1])));
            }
        }
        return sum.setScale(0, RoundingMode.FLOOR).longValueExact();
    }

    /** By all sums that can be reached at all. */
    long contradiction() {
        List<Row> lines = lines();
        for (int i = 0; i < lines.size(); i++) {
            Row l = lines.get(i);
            boolean[] reached = new boolean[2001];
            reached[1000] = true;
            for (int c = 0; c < columns.size(); c++) {
                boolean[] next = new boolean[2001];
                for (int s = 0; s <= 2000; s++) {
                    for (int v = 0; reached[s] && v <= columns.get(c)[1]; v++) {
                        next[s + v * l.factor(c)] = true;
                    }
                }
                reached = next;
            }
            boolean can = false;
            for (int s = 0; s <= 2000; s++) {
                can |= reached[s] && l.holds(s - 1000);
            }
            if (!can) {
                return i;
            }
        }
        return -1;
    }

    long check(int numbers) {
        int[] unpacked = new int[columns.size()];
        for (int c = 0; c < unpacked.length; c++) {
            for (int bit = 0; bit < 6; bit++) {
                unpacked[c] += (numbers & 1 << 6 * c + bit) != 0 ? 1 << bit : 0;
            }
        }
        for (int c = 0; c < unpacked.length; c++) {
            if (unpacked[c] > columns.get(c)[1]) {
                return 1 + c;
            }
        }
        return checkLines(unpacked);
    }

    private int checkLines(int[] numbers) {
        List<Row> lines = lines();
        for (int i = 0; i < lines.size(); i++) {
            int sum = 0;
            for (int c = 0; c < numbers.length; c++) {
                sum += lines.get(i).factor(c) * numbers[c];
            }
            if (!lines.get(i).holds(sum)) {
                return 101 + i;
            }
        }
        return 0;
    }

    /** The best of all plans by going through them all, first ones first; null if there is none. */
    int[] bestOfAll() {
        int[] numbers = new int[columns.size()];
        for (int c = 0; c < numbers.length; c++) {
            numbers[c] = columns.get(c)[1];
        }
        int[] first = null;
        while (true) {
            if (checkLines(numbers) == 0 && (first == null || worthOf(numbers) > worthOf(first))) {
                first = numbers.clone();
            }
            int c = numbers.length - 1;
            while (c >= 0 && numbers[c] == 0) {
                numbers[c] = columns.get(c)[1];
                c--;
            }
            if (c < 0) {
                return first;
            }
            numbers[c]--;
        }
    }

    long follow(int a, int b) {
        if (noColumn(a) || noColumn(b) || a == b) {
            throw new IndexOutOfBoundsException();
        }
        if (follows.size() == 10 || follows.contains(List.of(a, b))) {
            throw new UnsupportedOperationException();
        }
        follows.add(List.of(a, b));
        return follows.size();
    }

    long chain(int k) {
        if (k < 0) {
            throw new IndexOutOfBoundsException();
        }
        List<List<Integer>> chains = new ArrayList<>();
        allChains(new ArrayList<>(), chains);
        chains.sort((x, y) -> {
            if (x.size() != y.size()) {
                return y.size() - x.size();
            }
            for (int i = 0; i < x.size(); i++) {
                if (!x.get(i).equals(y.get(i))) {
                    return x.get(i) - y.get(i);
                }
            }
            return 0;
        });
        List<Integer> longest = chains.get(0);
        return k < longest.size() ? longest.get(k) : -1;
    }

    private void allChains(List<Integer> chain, List<List<Integer>> into) {
        into.add(new ArrayList<>(chain));
        for (int c = columns.size() - 1; c >= 0; c--) {
            boolean behind = chain.isEmpty() || follows.contains(List.of(chain.get(chain.size() - 1), c));
            if (behind && !chain.contains(c)) {
                chain.add(c);
                allChains(chain, into);
                chain.remove(chain.size() - 1);
            }
        }
    }
}
