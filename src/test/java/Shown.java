import java.util.function.LongSupplier;

/** All that later calls show of an object, as one text. It is used up by that: the last calls change it. */
final class Shown {
    private static final int[] PROBES = {
        0, -1, Integer.MIN_VALUE, Integer.MAX_VALUE, 1, 1 << 6, 1 << 12, 1 << 18, 1 << 24,
        2, 2 << 6, 2 << 12, 2 << 18, 2 << 24, 3 | 2 << 6, 5, 5 << 6, 2 | 2 << 6 | 2 << 12
    };

    private final OrderBounds x;
    private final StringBuilder text = new StringBuilder();

    private Shown(OrderBounds x) {
        this.x = x;
    }

    static String of(OrderBounds x) {
        Shown s = new Shown(x);
        s.asked();
        s.searchedOn();
        s.weighed();
        s.grown();
        return s.text.toString();
    }

    private void add(String call, LongSupplier answer) {
        text.append(call).append(' ').append(answerOf(answer)).append('\n');
    }

    private void addDone(String call, Runnable done) {
        add(call, () -> {
            done.run();
            return 0;
        });
    }

    static String answerOf(LongSupplier answer) {
        try {
            return String.valueOf(answer.getAsLong());
        } catch (RuntimeException e) {
            return e.getClass().getName();
        }
    }

    /** What can't be refused comes first: a refusal that changes something must not hide by being asked for. */
    private void asked() {
        add("certificate", x::certificate);
        add("told 1", () -> x.told(1));
        add("contradiction", x::contradiction);
        for (int p : PROBES) {
            add("check " + p, () -> x.check(p));
        }
        for (int k = 0; k < 6; k++) {
            int place = k;
            add("chain " + k, () -> x.chain(place));
        }
        found();
    }

    private void found() {
        add("told 0", () -> x.told(0));
        add("told 1", () -> x.told(1));
        for (int k = 0; k < 6; k++) {
            int column = k;
            add("value " + k, () -> x.value(column));
        }
    }

    private void searchedOn() {
        add("run 0", () -> x.run(0));
        for (int i = 0; i < 3; i++) {
            add("run 1", () -> x.run(1));
            found();
        }
        add("run 100000", () -> x.run(100000));
        found();
    }

    /** Right sides and factors show in the certificate when each row and cut has its multiplier alone. */
    private void weighed() {
        for (int i = 0; i < 9; i++) {
            int line = i;
            for (int v : new int[] {300, 3000, -300, -3000}) {
                addDone("multiplier " + i + " " + v, () -> x.multiplier(line, v));
                add("certificate", x::certificate);
            }
            addDone("multiplier " + i + " 0", () -> x.multiplier(line, 0));
        }
    }

    private void grown() {
        for (int a = 0; a < 5; a++) {
            for (int b = 4; b >= 0; b--) {
                int first = a;
                int second = b;
                add("follow " + a + " " + b, () -> x.follow(first, second));
                add("cut " + a + " " + b, () -> x.cut(first, second));
            }
        }
        add("chain 1", () -> x.chain(1));
        for (int i = 0; i < 6; i++) {
            add("column", () -> x.column(1, 1));
            add("row", () -> x.row(0, 9));
        }
        add("run 100000", () -> x.run(100000));
        found();
    }
}
