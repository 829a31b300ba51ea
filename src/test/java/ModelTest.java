import java.util.Random;
import java.util.function.LongSupplier;

/** Long runs of calls, ordinary and wrong ones, answered by the class and by the model. */
public final class ModelTest {
    private static final int OBJECTS = 1500;
    private static final int CALLS = 512;

    private final Random random;
    private final OrderBounds x = new OrderBounds();
    private final Model m = new Model();
    private final String name;
    private final int mostTop;
    private int call = 0;

    private ModelTest(int seed) {
        random = new Random(seed);
        name = "run " + seed;
        // High tops only now and then: the model's log of a whole search is long.
        mostTop = seed % 50 == 0 ? 20 : 1 + seed % 6;
    }

    public static void main(String[] args) {
        for (int seed = 1; seed <= OBJECTS; seed++) {
            new ModelTest(seed).go();
        }
        Due.end();
    }

    private void go() {
        while (call < CALLS) {
            oneCall();
        }
    }

    private int from(int low, int high) {
        return low + random.nextInt(high - low + 1);
    }

    /** Mostly from low to high, at times an edge, one beyond it, or any number. */
    private int about(int low, int high, int leastEdge, int mostEdge) {
        switch (random.nextInt(24)) {
            case 0:
                return leastEdge;
            case 1:
                return mostEdge;
            case 2:
                return leastEdge - 1;
            case 3:
                return mostEdge + 1;
            case 4:
                return random.nextInt();
            default:
                return from(low, high);
        }
    }

    private int index(int most) {
        return random.nextInt(20) == 0 ? random.nextInt() : from(random.nextInt(6) == 0 ? -1 : 0, most);
    }

    private void same(String what, LongSupplier got, LongSupplier want) {
        call++;
        String g = answer(got);
        String w = answer(want);
        Due.isTrue(name + ", call " + call + ": " + what + " answered " + g + ", due is " + w, g.equals(w));
    }

    private static String answer(LongSupplier s) {
        try {
            return String.valueOf(s.getAsLong());
        } catch (RuntimeException e) {
            return e.getClass().getName();
        }
    }

    private static LongSupplier plain(Runnable r) {
        return () -> {
            r.run();
            return 0;
        };
    }

    private void oneCall() {
        // Few changes late in a run, so that searches get on.
        int kind = random.nextInt(call < 40 || random.nextInt(12) == 0 ? 16 : 10);
        switch (kind) {
            case 0, 1 -> runSome();
            case 2 -> tellAll();
            case 3 -> multiplier();
            case 4 -> same("certificate()", x::certificate, m::certificate);
            case 5 -> same("contradiction()", x::contradiction, m::contradiction);
            case 6, 7 -> check();
            case 8 -> follow();
            case 9 -> chain();
            default -> change(kind);
        }
    }

    private void change(int kind) {
        int r = index(4);
        int c = index(4);
        int d = index(4);
        switch (kind) {
            case 10, 11 -> {
                int w = about(-9, 9, -1000, 1000);
                int t = random.nextInt(15) == 0 ? about(0, 1, 0, 20) : from(0, mostTop);
                int top = mostTop < 20 && t > 6 && t <= 20 ? 6 : t;
                same("column(" + w + ", " + top + ")", () -> x.column(w, top), () -> m.column(w, top));
            }
            case 12 -> {
                int k = random.nextInt(15) == 0 ? from(-2, 3) : from(0, 1);
                int v = k == 0 ? about(-10, 60, -10000, 10000) : about(-60, 20, -10000, 10000);
                same("row(" + k + ", " + v + ")", () -> x.row(k, v), () -> m.row(k, v));
            }
            case 13 -> {
                int v = about(-4, 6, -10, 10);
                same("factor(" + r + ", " + c + ", " + v + ")",
                        plain(() -> x.factor(r, c, v)), plain(() -> m.factor(r, c, v)));
            }
            case 14 -> {
                int v = about(-20, 40, -10000, 10000);
                same("right(" + r + ", " + v + ")", plain(() -> x.right(r, v)), plain(() -> m.right(r, v)));
            }
            default -> same("cut(" + c + ", " + d + ")", () -> x.cut(c, d), () -> m.cut(c, d));
        }
    }

    private void runSome() {
        int few = random.nextInt(3) == 0 ? from(0, 3) : from(0, 200);
        int steps = random.nextInt(8) == 0 ? about(1000, 100000, 0, 100000) : few;
        same("run(" + steps + ")", () -> x.run(steps), () -> m.run(steps));
        tellAll();
        if (mostTop <= 3 && m.hasEnded() && random.nextInt(4) == 0) {
            isBestOfAll();
        }
        if (m.found() != null) {
            call++;
            Due.isTrue(name + ": the certificate bounds the best", x.certificate() >= m.told(0));
        }
    }

    private void isBestOfAll() {
        int[] best = m.bestOfAll();
        Due.isTrue(name + ": a best is found if there is a plan", (best == null) == (m.found() == null));
        for (int c = 0; best != null && c < best.length; c++) {
            call++;
            Due.is(name + ": value(" + c + ") of the best of all", best[c], x.value(c));
        }
    }

    private void tellAll() {
        int what = random.nextInt(5) == 0 ? index(3) : from(0, 1);
        same("told(" + what + ")", () -> x.told(what), () -> m.told(what));
        same("told(1)", () -> x.told(1), () -> m.told(1));
        int c = index(5);
        same("value(" + c + ")", () -> x.value(c), () -> m.value(c));
    }

    private void multiplier() {
        int n = index(8);
        int v = about(-3000, 3000, -1000000, 1000000);
        same("multiplier(" + n + ", " + v + ")", plain(() -> x.multiplier(n, v)), plain(() -> m.multiplier(n, v)));
    }

    private void check() {
        int numbers = random.nextInt(4) == 0 ? random.nextInt() : 0;
        for (int c = 0; c < 5 && numbers == 0 | c > 0; c++) {
            numbers |= random.nextInt(mostTop + 1) << 6 * c;
        }
        int all = numbers;
        same("check(" + all + ")", () -> x.check(all), () -> m.check(all));
    }

    private void follow() {
        int a = index(4);
        int b = index(4);
        same("follow(" + a + ", " + b + ")", () -> x.follow(a, b), () -> m.follow(a, b));
    }

    private void chain() {
        int k = index(6);
        same("chain(" + k + ")", () -> x.chain(k), () -> m.chain(k));
    }
}
