/** An object with all the columns, rows and cuts that there is room for. */
final class Full {
    private Full() {
    }

    /** Five columns of worth 1 and top 2; rows: their sum is not above 9, 8, 7 and not below 0; cuts of neighbours. */
    static OrderBounds make() {
        OrderBounds x = new OrderBounds();
        for (int k = 0; k < 5; k++) {
            x.column(1, 2);
        }
        for (int i = 0; i < 4; i++) {
            x.row(i / 3, i < 3 ? 9 - i : 0);
            for (int k = 0; k < 5; k++) {
                x.factor(i, k, 1);
            }
        }
        for (int k = 0; k < 4; k++) {
            x.cut(k, k + 1);
        }
        return x;
    }
}
