/**
 * Bounds of plans by exact rows over columns: the greatest worth by a search that is spent and gone on,
 * certificates that bound every plan, contradictions, longest chains, and a check of given numbers.
 */
public final class OrderBounds {
    private static final int MOST_COLUMNS = 5;
    private static final int MOST_ROWS = 4;
    private static final int MOST_CUTS = 4;
    private static final int MOST_FOLLOWS = 10;
    private static final int MOST_WORTH = 1000;
    private static final int MOST_TOP = 20;
    private static final int MOST_RIGHT = 10000;
    private static final int MOST_FACTOR = 10;
    private static final int MOST_STEPS = 100000;
    private static final int MOST_MULTIPLIER = 1000000;

    private static final int NOT_ABOVE = 0;
    private static final int NOT_BELOW = 1;

    private static final int ENDED_WITH_BEST = 0;
    private static final int ENDED_WITHOUT_PLAN = 1;
    private static final int SPENT = 2;

    private static final int TOLD_WORTH = 0;
    private static final int TOLD_STEPS = 1;

    private static final int CHECK_BITS = 6;
    private static final int CHECK_MASK = 63;
    private static final int CHECK_PLAN = 0;
    private static final int CHECK_COLUMN = 1;
    private static final int CHECK_LINE = 101;

    private static final int NONE = -1;
    private static final long THOUSANDTHS = 1000L;

    private final Columns columns;
    private final Lines lines;
    private final Search search;
    private final Follows follows;

    public OrderBounds() {
        columns = new Columns();
        lines = new Lines();
        search = new Search(columns, lines);
        follows = new Follows();
    }

    public int column(int worth, int top) throws IllegalArgumentException, UnsupportedOperationException {
        if (worth < -MOST_WORTH || worth > MOST_WORTH) {
            throw new IllegalArgumentException("worth is out of range");
        }
        if (top < 0 || top > MOST_TOP) {
            throw new IllegalArgumentException("top is out of range");
        }
        if (columns.count() >= MOST_COLUMNS) {
            throw new UnsupportedOperationException("no room for a column");
        }
        int number = columns.add(worth, top);
        search.begin();
        return number;
    }

    public int row(int kind, int right) throws IllegalArgumentException, UnsupportedOperationException {
        if (kind != NOT_ABOVE && kind != NOT_BELOW) {
            throw new IllegalArgumentException("no such kind");
        }
        if (isNoRight(right)) {
            throw new IllegalArgumentException("right side is out of range");
        }
        if (lines.rowCount() >= MOST_ROWS) {
            throw new UnsupportedOperationException("no room for a row");
        }
        int number = lines.addRow(kind, right);
        search.begin();
        return number;
    }

    public void factor(int row, int column, int v) throws IndexOutOfBoundsException, IllegalArgumentException {
        if (isNoRow(row)) {
            throw new IndexOutOfBoundsException("no such row");
        }
        if (isNoColumn(column)) {
            throw new IndexOutOfBoundsException("no such column");
        }
        if (v < -MOST_FACTOR || v > MOST_FACTOR) {
            throw new IllegalArgumentException("factor is out of range");
        }
        lines.at(row).setFactor(column, v);
        search.begin();
    }

    public void right(int row, int v) throws IndexOutOfBoundsException, IllegalArgumentException {
        if (isNoRow(row)) {
            throw new IndexOutOfBoundsException("no such row");
        }
        if (isNoRight(v)) {
            throw new IllegalArgumentException("right side is out of range");
        }
        lines.at(row).setRight(v);
        search.begin();
    }

    public int cut(int a, int b) throws IndexOutOfBoundsException, UnsupportedOperationException {
        if (isNoPair(a, b)) {
            throw new IndexOutOfBoundsException("no such pair of columns");
        }
        if (lines.cutCount() >= MOST_CUTS) {
            throw new UnsupportedOperationException("no room for a cut");
        }
        if (lines.hasCut(a, b)) {
            throw new UnsupportedOperationException("the pair has a cut");
        }
        int count = lines.addCut(a, b, Math.max(columns.top(a), columns.top(b)));
        search.begin();
        return count;
    }

    public int run(int steps) throws IllegalArgumentException {
        if (steps < 0 || steps > MOST_STEPS) {
            throw new IllegalArgumentException("steps are out of range");
        }
        return search.goOn(steps);
    }

    public int told(int what) throws IndexOutOfBoundsException, IllegalStateException {
        if (what != TOLD_WORTH && what != TOLD_STEPS) {
            throw new IndexOutOfBoundsException("no such what");
        }
        if (what == TOLD_STEPS) {
            return search.stepsGiven();
        }
        if (!search.hasFound()) {
            throw new IllegalStateException("no plan was found");
        }
        return search.bestWorth();
    }

    public int value(int column) throws IndexOutOfBoundsException, IllegalStateException {
        if (isNoColumn(column)) {
            throw new IndexOutOfBoundsException("no such column");
        }
        if (!search.hasFound()) {
            throw new IllegalStateException("no plan was found");
        }
        return search.bestNumber(column);
    }

    public void multiplier(int row, int v) throws IndexOutOfBoundsException, IllegalArgumentException {
        if (row < 0 || row >= lines.count()) {
            throw new IndexOutOfBoundsException("no such row or cut");
        }
        Line line = lines.at(row);
        if (!line.allowsWeight(v)) {
            throw new IllegalArgumentException("multiplier is out of range");
        }
        line.setWeight(v);
    }

    public long certificate() {
        long sum = lines.weightedRights();
        for (int k = 0; k < columns.count(); k++) {
            long rest = THOUSANDTHS * columns.worth(k) - lines.weightedFactors(k);
            if (rest > 0) {
                sum += columns.top(k) * rest;
            }
        }
        return Math.floorDiv(sum, THOUSANDTHS);
    }

    public int contradiction() {
        for (int i = 0; i < lines.count(); i++) {
            if (!lines.at(i).canHold(columns)) {
                return i;
            }
        }
        return NONE;
    }

    public int check(int numbers) {
        for (int k = 0; k < columns.count(); k++) {
            if (packedNumber(numbers, k) > columns.top(k)) {
                return CHECK_COLUMN + k;
            }
        }
        for (int i = 0; i < lines.count(); i++) {
            if (!lines.at(i).holds(packedSum(numbers, lines.at(i)))) {
                return CHECK_LINE + i;
            }
        }
        return CHECK_PLAN;
    }

    public int follow(int a, int b) throws IndexOutOfBoundsException, UnsupportedOperationException {
        if (isNoPair(a, b)) {
            throw new IndexOutOfBoundsException("no such pair of columns");
        }
        if (follows.count() >= MOST_FOLLOWS) {
            throw new UnsupportedOperationException("no room for a pair that follows");
        }
        if (follows.has(a, b)) {
            throw new UnsupportedOperationException("the pair follows already");
        }
        return follows.add(a, b);
    }

    public int chain(int k) throws IndexOutOfBoundsException {
        if (k < 0) {
            throw new IndexOutOfBoundsException("no such place in a chain");
        }
        return follows.longestAt(k, columns.count());
    }

    private boolean isNoColumn(int column) {
        return column < 0 || column >= columns.count();
    }

    private boolean isNoRow(int row) {
        return row < 0 || row >= lines.rowCount();
    }

    private boolean isNoPair(int a, int b) {
        return isNoColumn(a) || isNoColumn(b) || a == b;
    }

    private static boolean isNoRight(int v) {
        return v < -MOST_RIGHT || v > MOST_RIGHT;
    }

    private static int packedNumber(int numbers, int column) {
        return (numbers >>> (CHECK_BITS * column)) & CHECK_MASK;
    }

    private int packedSum(int numbers, Line line) {
        int sum = 0;
        for (int k = 0; k < columns.count(); k++) {
            sum += line.factorOf(k) * packedNumber(numbers, k);
        }
        return sum;
    }

    /** The columns that were told. Callers ask only for columns below count(). */
    private static final class Columns {
        private final int[] worths = new int[MOST_COLUMNS];
        private final int[] tops = new int[MOST_COLUMNS];
        private int count = 0;

        int count() {
            return count;
        }

        int worth(int k) {
            return worths[k];
        }

        int top(int k) {
            return tops[k];
        }

        /** Only while there is room. */
        int add(int worth, int top) {
            worths[count] = worth;
            tops[count] = top;
            count++;
            return count - 1;
        }
    }

    /** A row or a cut. */
    private static final class Line {
        private final int[] factors = new int[MOST_COLUMNS];
        private int kind = NOT_ABOVE;
        private int right = 0;
        private int weight = 0;
        // For the search: what the columns before k have added, and what those from k on can add at their kindest.
        private final int[] sums = new int[MOST_COLUMNS + 1];
        private final int[] helps = new int[MOST_COLUMNS + 1];

        int rightSide() {
            return right;
        }

        int factorOf(int column) {
            return factors[column];
        }

        int weight() {
            return weight;
        }

        void setKind(int newKind) {
            kind = newKind;
        }

        void setRight(int v) {
            right = v;
        }

        void setFactor(int column, int v) {
            factors[column] = v;
        }

        void setWeight(int v) {
            weight = v;
        }

        boolean allowsWeight(int v) {
            if (kind == NOT_ABOVE) {
                return v >= 0 && v <= MOST_MULTIPLIER;
            }
            return v <= 0 && v >= -MOST_MULTIPLIER;
        }

        boolean holds(int sum) {
            return kind == NOT_ABOVE ? sum <= right : sum >= right;
        }

        boolean canHold(Columns columns) {
            int sum = 0;
            for (int k = 0; k < columns.count(); k++) {
                sum += kindest(columns, k);
            }
            return holds(sum);
        }

        /** What column k adds when it helps this line to hold the most: the least for NOT ABOVE, else the most. */
        private int kindest(Columns columns, int k) {
            int full = factors[k] * columns.top(k);
            return kind == NOT_ABOVE ? Math.min(full, 0) : Math.max(full, 0);
        }

        void beginSums(Columns columns) {
            int last = columns.count();
            helps[last] = 0;
            for (int k = last - 1; k >= 0; k--) {
                helps[k] = helps[k + 1] + kindest(columns, k);
            }
            sums[0] = 0;
        }

        /** Gives column k a number, and says if the line can still hold, whatever the later columns have. */
        boolean stillHolds(int k, int number) {
            int sum = sums[k] + factors[k] * number;
            sums[k + 1] = sum;
            return holds(sum + helps[k + 1]);
        }
    }

    /** The rows and, numbered behind them, the cuts. */
    private static final class Lines {
        private final Line[] rows = new Line[MOST_ROWS];
        private final Line[] cuts = new Line[MOST_CUTS];
        private int rowCount = 0;
        private int cutCount = 0;

        Lines() {
            for (int i = 0; i < MOST_ROWS; i++) {
                rows[i] = new Line();
            }
            for (int i = 0; i < MOST_CUTS; i++) {
                cuts[i] = new Line();
            }
        }

        int rowCount() {
            return rowCount;
        }

        int cutCount() {
            return cutCount;
        }

        int count() {
            return rowCount + cutCount;
        }

        /** Only for numbers from 0 to below count(). */
        Line at(int number) {
            return number < rowCount ? rows[number] : cuts[number - rowCount];
        }

        /** Only while there is room. */
        int addRow(int kind, int right) {
            Line line = rows[rowCount];
            line.setKind(kind);
            line.setRight(right);
            rowCount++;
            clearWeights();
            return rowCount - 1;
        }

        /** Only while there is room. */
        int addCut(int a, int b, int right) {
            Line line = cuts[cutCount];
            line.setRight(right);
            line.setFactor(a, 1);
            line.setFactor(b, 1);
            cutCount++;
            clearWeights();
            return cutCount;
        }

        /** A cut's factors are 1 for just its two columns, so they tell its pair in either order. */
        boolean hasCut(int a, int b) {
            for (int i = 0; i < cutCount; i++) {
                if (cuts[i].factorOf(a) == 1 && cuts[i].factorOf(b) == 1) {
                    return true;
                }
            }
            return false;
        }

        private void clearWeights() {
            for (int i = 0; i < count(); i++) {
                at(i).setWeight(0);
            }
        }

        long weightedRights() {
            long sum = 0;
            for (int i = 0; i < count(); i++) {
                sum += (long) at(i).weight() * at(i).rightSide();
            }
            return sum;
        }

        long weightedFactors(int column) {
            long sum = 0;
            for (int i = 0; i < count(); i++) {
                sum += (long) at(i).weight() * at(i).factorOf(column);
            }
            return sum;
        }

        void beginSums(Columns columns) {
            for (int i = 0; i < count(); i++) {
                at(i).beginSums(columns);
            }
        }

        /** When a line can't hold, the sums of those behind it stay old: no later column is tried with them. */
        boolean stillHold(int column, int number) {
            for (int i = 0; i < rowCount; i++) {
                if (!rows[i].stillHolds(column, number)) {
                    return false;
                }
            }
            for (int i = 0; i < cutCount; i++) {
                if (!cuts[i].stillHolds(column, number)) {
                    return false;
                }
            }
            return true;
        }

        boolean holdWithoutColumns() {
            for (int i = 0; i < count(); i++) {
                if (!at(i).holds(0)) {
                    return false;
                }
            }
            return true;
        }
    }

    /** The search for the best plan; it stands between two steps, so that it can go on from there. */
    private static final class Search {
        private final Columns columns;
        private final Lines lines;
        private final int[] numbers = new int[MOST_COLUMNS];
        private final int[] bestNumbers = new int[MOST_COLUMNS];
        // The worth of the columns before k, and the most that those from k on can add to it.
        private final int[] worths = new int[MOST_COLUMNS + 1];
        private final int[] hopes = new int[MOST_COLUMNS + 1];
        // The column whose number is to be given next (it stands in numbers); below 0 when the search has ended.
        private int at = 0;
        private int steps = 0;
        private boolean found = false;
        private int bestWorth = 0;

        Search(Columns columns, Lines lines) {
            this.columns = columns;
            this.lines = lines;
        }

        int stepsGiven() {
            return steps;
        }

        boolean hasFound() {
            return found;
        }

        int bestWorth() {
            return bestWorth;
        }

        int bestNumber(int column) {
            return bestNumbers[column];
        }

        void begin() {
            int last = columns.count();
            hopes[last] = 0;
            for (int k = last - 1; k >= 0; k--) {
                hopes[k] = hopes[k + 1] + Math.max(columns.worth(k) * columns.top(k), 0);
            }
            lines.beginSums(columns);
            worths[0] = 0;
            steps = 0;
            found = false;
            at = 0;
            numbers[0] = columns.top(0);
        }

        int goOn(int allowed) {
            if (columns.count() == 0) {
                endWithoutColumns();
            }
            for (int left = allowed; left > 0 && at >= 0; left--) {
                step();
            }
            if (at >= 0) {
                return SPENT;
            }
            return found ? ENDED_WITH_BEST : ENDED_WITHOUT_PLAN;
        }

        private void endWithoutColumns() {
            found = lines.holdWithoutColumns();
            bestWorth = 0;
            at = NONE;
        }

        /** Only while the search has not ended. */
        private void step() {
            int number = numbers[at];
            int worth = worths[at] + columns.worth(at) * number;
            steps++;
            worths[at + 1] = worth;
            if (!isWorthwhile(worth + hopes[at + 1]) || !lines.stillHold(at, number)) {
                toNextNumber();
            } else if (at + 1 < columns.count()) {
                at++;
                numbers[at] = columns.top(at);
            } else {
                keep(worth);
                toNextNumber();
            }
        }

        private boolean isWorthwhile(int mostWorth) {
            return !found || mostWorth > bestWorth;
        }

        private void keep(int worth) {
            found = true;
            bestWorth = worth;
            System.arraycopy(numbers, 0, bestNumbers, 0, columns.count());
        }

        private void toNextNumber() {
            while (at >= 0 && numbers[at] == 0) {
                at--;
            }
            if (at >= 0) {
                numbers[at]--;
            }
        }
    }

    /** The pairs that follow, and the longest chain of columns by them. */
    private static final class Follows {
        // The columns that may come behind column a, as bits.
        private final int[] behind = new int[MOST_COLUMNS];
        private int count = 0;

        int count() {
            return count;
        }

        boolean has(int a, int b) {
            return hasBit(behind[a], b);
        }

        int add(int a, int b) {
            behind[a] |= 1 << b;
            count++;
            return count;
        }

        /** The longest chain's column at place k, or none; each place takes the lowest column that keeps it longest. */
        int longestAt(int k, int columnCount) {
            if (k >= columnCount) {
                return NONE;
            }
            int used = 0;
            int choices = (1 << columnCount) - 1;
            int chosen = NONE;
            for (int place = 0; place <= k; place++) {
                chosen = bestChoice(behind, choices, used);
                if (chosen < 0) {
                    return NONE;
                }
                used |= 1 << chosen;
                choices = behind[chosen] & ~used;
            }
            return chosen;
        }

        private static int bestChoice(int[] behind, int choices, int used) {
            int chosen = NONE;
            int longest = 0;
            for (int b = 0; b < MOST_COLUMNS; b++) {
                int length = hasBit(choices, b) ? longestFrom(behind, b, used, 0) : 0;
                if (length > longest) {
                    longest = length;
                    chosen = b;
                }
            }
            return chosen;
        }

        /** The most columns of a chain that begins with an unused one; each level uses one more, so it ends. */
        private static int longestFrom(int[] behind, int first, int used, int depth) {
            if (depth >= MOST_COLUMNS) {
                return 0;
            }
            int usedNow = used | (1 << first);
            int longest = 0;
            for (int b = 0; b < MOST_COLUMNS; b++) {
                if (hasBit(behind[first] & ~usedNow, b)) {
                    longest = Math.max(longest, longestFrom(behind, b, usedNow, depth + 1));
                }
            }
            return longest + 1;
        }

        private static boolean hasBit(int bits, int b) {
            return ((bits >> b) & 1) == 1;
        }
    }
}
