/** Objects in the states that a call can meet; each make() makes a new one by the same calls. */
enum State {
    NEW {
        @Override
        OrderBounds make() {
            return new OrderBounds();
        }
    },
    ENDED_WITHOUT_COLUMNS {
        @Override
        OrderBounds make() {
            OrderBounds x = new OrderBounds();
            x.row(0, 5);
            x.row(1, -3);
            x.multiplier(0, 700);
            x.multiplier(1, -300);
            x.run(0);
            return x;
        }
    },
    COLUMNS_ALONE {
        @Override
        OrderBounds make() {
            OrderBounds x = new OrderBounds();
            x.column(5, 2);
            x.column(-4, 1);
            x.column(3, 0);
            x.follow(1, 2);
            return x;
        }
    },
    NOT_YET_RUN {
        @Override
        OrderBounds make() {
            return problem();
        }
    },
    SPENT_WITH_NOTHING_FOUND {
        @Override
        OrderBounds make() {
            return problemRun(STEPS_BEFORE_A_PLAN);
        }
    },
    SPENT_WITH_A_PLAN {
        @Override
        OrderBounds make() {
            return problemRun(STEPS_WITH_A_PLAN);
        }
    },
    ENDED_WITH_THE_BEST {
        @Override
        OrderBounds make() {
            return problemRun(100000);
        }
    },
    ENDED_WITHOUT_PLAN {
        @Override
        OrderBounds make() {
            OrderBounds x = problem();
            x.right(1, 100);
            x.run(100000);
            return x;
        }
    },
    FULL {
        @Override
        OrderBounds make() {
            OrderBounds x = Full.make();
            int[] pairs = {0, 1, 1, 0, 4, 3, 3, 4, 2, 0, 0, 2, 0, 3, 0, 4, 1, 2, 2, 1};
            for (int i = 0; i < 10; i++) {
                x.follow(pairs[2 * i], pairs[2 * i + 1]);
            }
            for (int i = 0; i < 8; i++) {
                x.multiplier(i, i == 3 ? -400 : 100 * i);
            }
            x.run(40);
            return x;
        }
    };

    static final int STEPS_BEFORE_A_PLAN = 2;
    static final int STEPS_WITH_A_PLAN = 9;

    abstract OrderBounds make();

    /** 2 a + 3 b is not above 12, a + c is not below 2, a and b are not above 5: the best is 3, 2, 0 of worth 17. */
    private static OrderBounds problem() {
        OrderBounds x = new OrderBounds();
        x.column(3, 5);
        x.column(4, 5);
        x.column(-2, 5);
        x.row(0, 12);
        x.factor(0, 0, 2);
        x.factor(0, 1, 3);
        x.row(1, 2);
        x.factor(1, 0, 1);
        x.factor(1, 2, 1);
        x.cut(0, 1);
        x.multiplier(0, 1400);
        x.multiplier(1, -250);
        x.multiplier(2, 50);
        x.follow(2, 0);
        x.follow(0, 1);
        return x;
    }

    private static OrderBounds problemRun(int steps) {
        OrderBounds x = problem();
        x.run(steps);
        return x;
    }
}
