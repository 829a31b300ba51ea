/** Promise 7: run. */
public final class Promise07RunTest {
    private static final int[] WRONG = {-1, 100001, Integer.MIN_VALUE, Integer.MAX_VALUE};

    public static void main(String[] args) {
        refusals();
        withoutColumns();
        endsWithItsLastNumber();
        stepsByHand();
        goesOnWhereItWasSpent();
        firstOfTheBest();
        withoutPlan();
        rowsThatCannotHoldAnyMore();
        zeroTops();
        hardestSearch();
        fullObject();
        Due.end();
    }

    private static void refusals() {
        OrderBounds x = new OrderBounds();
        x.column(1, 4);
        x.run(2);
        for (int s : WRONG) {
            Due.refused("run(" + s + ")", Due.RANGE, () -> x.run(s));
        }
        Due.is("told(1)", 2, x.told(1));
        Due.is("run(100000)", 0, x.run(100000));
        for (int s : WRONG) {
            Due.refused("run(" + s + ") after the end", Due.RANGE, () -> x.run(s));
        }
    }

    private static void withoutColumns() {
        OrderBounds x = new OrderBounds();
        x.row(0, 0);
        Due.is("run(0)", 0, x.run(0));
        Due.is("run(100000)", 0, x.run(100000));
        Due.is("told(0)", 0, x.told(0));
        Due.is("told(1)", 0, x.told(1));
        x.right(0, -1);
        Due.is("run(5)", 1, x.run(5));
        Due.is("run(0)", 1, x.run(0));
        Due.refused("told(0)", Due.TURN, () -> x.told(0));
        Due.is("told(1)", 0, x.told(1));
        x.right(0, 5);
        x.row(1, 1);
        Due.is("run(0), not below 1", 1, x.run(0));
        x.right(1, 0);
        Due.is("run(0), not below 0", 0, x.run(0));
    }

    private static void endsWithItsLastNumber() {
        OrderBounds x = new OrderBounds();
        x.column(5, 10);
        Due.is("run(0)", 2, x.run(0));
        Due.is("run(10)", 2, x.run(10));
        Due.is("run(0)", 2, x.run(0));
        Due.is("told(0)", 50, x.told(0));
        Due.is("run(1)", 0, x.run(1));
        Due.is("told(1)", 11, x.told(1));
        Due.is("run(0) after the end", 0, x.run(0));
        Due.is("run(100000) after the end", 0, x.run(100000));
        Due.is("told(1)", 11, x.told(1));
    }

    private static void stepsByHand() {
        OrderBounds x = new OrderBounds();
        x.column(2, 1);
        x.column(-1, 2);
        // column 0: 1; column 1: 2 (worth 0), 1 (worth 1), 0 (worth 2); column 0: 0, which can't be above 2.
        int[] worths = {0, 0, 1, 2, 2};
        int[] answers = {2, 2, 2, 2, 0};
        for (int step = 0; step < 5; step++) {
            Due.is("run(1), step " + step, answers[step], x.run(1));
            Due.is("told(1)", step + 1, x.told(1));
            if (step > 0) {
                Due.is("told(0)", worths[step], x.told(0));
            } else {
                Due.refused("told(0)", Due.TURN, () -> x.told(0));
            }
        }
        Due.is("value(0)", 1, x.value(0));
        Due.is("value(1)", 0, x.value(1));
    }

    private static OrderBounds threeColumns() {
        OrderBounds x = new OrderBounds();
        x.column(3, 5);
        x.column(4, 5);
        x.column(-2, 5);
        x.row(0, 12);
        x.factor(0, 0, 2);
        x.factor(0, 1, 3);
        x.row(1, 2);
        x.factor(1, 2, 1);
        x.factor(1, 0, 1);
        return x;
    }

    private static void goesOnWhereItWasSpent() {
        for (int part = 1; part <= 61; part++) {
            OrderBounds x = threeColumns();
            int given = 0;
            while (given + part < 60) {
                Due.is("run(" + part + ")", 2, x.run(part));
                given += part;
                Due.is("told(1)", given, x.told(1));
                Due.is("run(0)", 2, x.run(0));
                if (given == part) {
                    x.follow(0, 1);
                }
                x.multiplier(0, given);
                x.certificate();
                x.contradiction();
                x.check(given);
                x.chain(0);
                if (given >= 2 * part) {
                    break;
                }
            }
            Due.is("run(60 - given)", 0, x.run(60 - given));
            Due.is("told(1)", 60, x.told(1));
            Due.is("told(0)", 17, x.told(0));
            Due.is("value(0)", 3, x.value(0));
            Due.is("value(1)", 2, x.value(1));
            Due.is("value(2)", 0, x.value(2));
        }
    }

    private static void firstOfTheBest() {
        OrderBounds x = new OrderBounds();
        x.column(1, 4);
        x.column(1, 4);
        x.column(1, 4);
        x.row(0, 5);
        for (int k = 0; k < 3; k++) {
            x.factor(0, k, 1);
        }
        Due.is("run", 0, x.run(1000));
        Due.is("told(0)", 5, x.told(0));
        Due.is("value(0)", 4, x.value(0));
        Due.is("value(1)", 1, x.value(1));
        Due.is("value(2)", 0, x.value(2));
    }

    private static void withoutPlan() {
        OrderBounds x = new OrderBounds();
        x.column(1, 3);
        x.column(1, 3);
        x.row(0, 2);
        x.factor(0, 0, 1);
        x.row(1, 3);
        x.factor(1, 0, 1);
        Due.is("run(3)", 2, x.run(3));
        Due.is("run(1)", 1, x.run(1));
        Due.is("told(1)", 4, x.told(1));
        Due.is("run(9)", 1, x.run(9));
        Due.refused("value(0)", Due.TURN, () -> x.value(0));
    }

    private static void rowsThatCannotHoldAnyMore() {
        OrderBounds x = new OrderBounds();
        x.column(1, 2);
        x.column(0, 3);
        x.row(1, 4);
        x.factor(0, 0, 2);
        x.factor(0, 1, -1);
        // 2: then 3, 2, 1 are too low and 0 is a plan of worth 2; 1 and 0 can't be above it.
        Due.is("run(100)", 0, x.run(100));
        Due.is("told(1)", 7, x.told(1));
        Due.is("told(0)", 2, x.told(0));
        x.right(0, 5);
        Due.is("run(100)", 1, x.run(100));
        Due.is("told(1)", 3, x.told(1));
        OrderBounds y = new OrderBounds();
        y.column(1, 2);
        y.column(0, 3);
        y.row(0, 0);
        y.factor(0, 0, 2);
        y.factor(0, 1, -1);
        // 2 needs more than 3 of column 1; 1 is a plan with 3; 0 can't be above it.
        Due.is("run(100)", 0, y.run(100));
        Due.is("value(0)", 1, y.value(0));
        Due.is("value(1)", 3, y.value(1));
        Due.is("told(1)", 1 + 1 + 4 + 1, y.told(1));
    }

    private static void zeroTops() {
        OrderBounds x = new OrderBounds();
        for (int k = 0; k < 5; k++) {
            x.column(-1000, 0);
        }
        Due.is("run(4)", 2, x.run(4));
        Due.refused("told(0)", Due.TURN, () -> x.told(0));
        Due.is("run(1)", 0, x.run(1));
        Due.is("told(0)", 0, x.told(0));
        Due.is("told(1)", 5, x.told(1));
    }

    /** Twice the last column can't be 1, which is seen with its number alone: no number is left out. */
    private static void hardestSearch() {
        OrderBounds x = new OrderBounds();
        for (int k = 0; k < 5; k++) {
            x.column(1, 20);
        }
        x.row(0, 1);
        x.row(1, 1);
        x.factor(0, 4, 2);
        x.factor(1, 4, 2);
        int all = 21 + 21 * 21 + 21 * 21 * 21 + 21 * 21 * 21 * 21 + 21 * 21 * 21 * 21 * 21;
        int runs = 0;
        int answer = 2;
        while (answer == 2 && runs < 60) {
            runs++;
            answer = x.run(100000);
        }
        Due.is("the last run", 1, answer);
        Due.is("runs", all / 100000 + 1, runs);
        Due.is("told(1)", all, x.told(1));
    }

    private static void fullObject() {
        OrderBounds x = Full.make();
        Due.is("run", 0, x.run(100000));
        Due.is("told(0)", 6, x.told(0));
        for (int k = 0; k < 5; k++) {
            Due.is("value(" + k + ")", k % 2 == 0 ? 2 : 0, x.value(k));
        }
        x.right(3, 7);
        Due.is("run, not below 7", 1, x.run(100000));
    }
}
