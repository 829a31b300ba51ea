/** Objects of the tests. */
final class Made {
    private Made() {
    }

    /** Columns of worth 1 with these tops. */
    static OrderBounds withTops(int... tops) {
        OrderBounds x = new OrderBounds();
        for (int t : tops) {
            x.column(1, t);
        }
        return x;
    }

    /** So many columns of worth 1 and top 2. */
    static OrderBounds withColumns(int count) {
        OrderBounds x = new OrderBounds();
        for (int k = 0; k < count; k++) {
            x.column(1, 2);
        }
        return x;
    }

    /** Column 0 has to be 1, so that the plan's worth is its worth. */
    static OrderBounds forcedToOne(int worth) {
        OrderBounds x = new OrderBounds();
        x.column(worth, 1);
        x.row(1, 1);
        x.factor(0, 0, 1);
        return x;
    }

    /** One column of this top in one row. */
    static OrderBounds oneByOne(int top, int kind, int right, int factor) {
        OrderBounds x = new OrderBounds();
        x.column(1, top);
        x.row(kind, right);
        x.factor(0, 0, factor);
        return x;
    }

    /** Rows 0 .. of kind 0 and right side 100. */
    static void addRows(OrderBounds x, int count) {
        for (int i = 0; i < count; i++) {
            x.row(0, 100);
        }
    }

    /** The cuts of neighbours, from the first pair on. */
    static void addCuts(OrderBounds x, int count) {
        for (int k = 0; k < count; k++) {
            x.cut(k, k + 1);
        }
    }

    /** Numbers of columns in check()'s form. */
    static int packed(int... numbers) {
        int all = 0;
        for (int k = 0; k < numbers.length; k++) {
            all |= numbers[k] << 6 * k;
        }
        return all;
    }
}
