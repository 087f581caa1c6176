/** Promises 29 to 31: sheets, which are seen by lay and order. */
public final class SheetsTest {
    private static final Dues T = new Dues();

    public static void main(String[] args) {
        sheet();
        cell();
        copy();
        T.end();
    }

    private static void sheet() {
        HundredBoxes x = new HundredBoxes();
        T.due("sheet(-1, 0, 1)", x.sheet(-1, 0, 1), -2);
        T.due("sheet(4, 0, 1)", x.sheet(4, 0, 1), -2);
        T.due("sheet(0, -2, 1)", x.sheet(0, -2, 1), -2);
        T.due("sheet(0, 3, 1)", x.sheet(0, 3, 1), -2);
        T.due("sheet(0, 3, -1)", x.sheet(0, 3, -1), -2);
        T.due("sheet(0, 0, 41)", x.sheet(0, 0, 41), -2);
        T.due("sheet(0, 0, -1)", x.sheet(0, 0, -1), -14);
        T.due("sheet(0, 0, least)", x.sheet(0, 0, Integer.MIN_VALUE), -14);
        T.due("still missing", x.cell(0, 0, 0), -11);
        T.due("sheet(0, -1, 99)", x.sheet(0, -1, 99), 1);
        T.due("sheet(0, -1, -9)", x.sheet(0, -1, -9), 1);
        T.due("still missing", x.cell(0, 0, 0), -11);
        T.due("sheet(0, 0, 40)", x.sheet(0, 0, 40), 1);
        T.due("cell(0, 39, 1)", x.cell(0, 39, 1), 1);
        T.due("sheet(0, 2, 0)", x.sheet(0, 2, 0), 1);
        T.due("cell of none", x.cell(0, 0, 1), -12);
        x.boxes(3);
        Dues.row(x, 3, 2, 7, 8, 9);
        T.due("order", x.order(3, 1), 24);
        T.due("sheet(3, 2, -1)", x.sheet(3, 2, -1), -14);
        T.due("order as before", x.order(3, 1), 24);
        T.due("sheet anew", x.sheet(3, 0, 3), 1);
        T.due("all 0", x.order(3, 1), 0);
        T.due("missing", x.sheet(3, -1, 3), 1);
        T.due("order of a missing one", x.order(3, 1), -11);
    }

    private static void cell() {
        HundredBoxes x = new HundredBoxes();
        T.due("cell(-1, 0, 0)", x.cell(-1, 0, 0), -2);
        T.due("cell(4, 0, 0)", x.cell(4, 0, 0), -2);
        T.due("cell(0, -1, 0)", x.cell(0, -1, 0), -11);
        x.boxes(1);
        int[] values = {5, 256 + 5, 65536 + 5, -1, 255, 65535, 128, -128};
        int[][] answers = {
            {5, 5, 5, -2, -2, -2, -2, -2},
            {5, -2, 5, -2, -2, -2, -2, -2},
            {5, -2, -2, -2, -2, -2, -2, -2},
        };
        int[][] laid = {
            {-2, -2, -2, 0, 0, 0, -2, -2},
            {-2, -2, -2, 0, -2, 0, -2, -2},
            {-2, -2, -2, 0, -2, -2, -2, -2},
        };
        for (int sort = 0; sort < 3; sort++) {
            x.sheet(0, sort, 1);
            T.due("cell(0, 1, 0)", x.cell(0, 1, 0), -12);
            T.due("cell(0, -1, 0)", x.cell(0, -1, 0), -12);
            for (int i = 0; i < values.length; i++) {
                T.due("cell(0, 0, " + values[i] + ")", x.cell(0, 0, values[i]), 1);
                T.due("order, sort " + sort + ", " + values[i], x.order(0, 1), answers[sort][i]);
                T.due("lay, sort " + sort + ", " + values[i], x.lay(0), laid[sort][i]);
            }
        }
    }

    private static void weights(HundredBoxes x, int sheet, int... want) {
        // each weight is seen in an order of one look, all else laid at 0 in a copy
        for (int i = 0; i < want.length; i++) {
            x.sheet(3, 2, want.length);
            T.due("copy of item " + i, x.copy(sheet, i, 3, i, 1), 1);
            T.due("item " + i + " of " + sheet, x.order(3, 1), want[i]);
        }
    }

    private static void copy() {
        HundredBoxes x = new HundredBoxes();
        x.looks(1);
        Dues.row(x, 0, 2, 1, 2, 3, 4, 5, 6);
        T.due("copy, no such", x.copy(-1, 0, 0, 0, 1), -2);
        T.due("copy, no such other", x.copy(0, 0, 4, 0, 1), -2);
        T.due("copy, missing and no such", x.copy(1, 0, 4, 0, 1), -2);
        T.due("copy from a missing one", x.copy(1, 0, 0, 0, 1), -11);
        T.due("copy to a missing one", x.copy(0, 0, 1, 0, -1), -11);
        x.sheet(1, 1, 6);
        T.due("copy, unlike", x.copy(0, 0, 1, 0, 1), -13);
        T.due("copy, unlike ahead of outside", x.copy(0, -1, 1, 0, 1), -13);
        x.sheet(1, 2, 6);
        T.due("copy, all", x.copy(0, 0, 1, 0, 6), 6);
        weights(x, 1, 1, 2, 3, 4, 5, 6);
        T.due("copy up in itself", x.copy(0, 0, 0, 2, 4), 4);
        weights(x, 0, 1, 2, 1, 2, 3, 4);
        T.due("copy down in itself", x.copy(1, 2, 1, 1, 4), 4);
        weights(x, 1, 1, 3, 4, 5, 6, 6);
        T.due("copy of none", x.copy(0, 6, 1, 6, 0), 0);
        T.due("copy of none, outside", x.copy(0, 7, 1, 0, 0), -12);
        T.due("copy to none, outside", x.copy(0, 0, 1, 7, 0), -12);
        int[][] outside = {{-1, 0, 1}, {0, -1, 1}, {0, 0, -1}, {0, 0, 7}, {1, 0, 6}, {0, 1, 6}, {6, 0, 1}, {0, 6, 1},
            {Integer.MAX_VALUE, 0, 1}, {1, 0, Integer.MAX_VALUE}, {0, Integer.MAX_VALUE, 2}, {0, 0, Integer.MIN_VALUE}};
        for (int[] o : outside) {
            T.due("copy(0, " + o[0] + ", 1, " + o[1] + ", " + o[2] + ")", x.copy(0, o[0], 1, o[1], o[2]), -12);
        }
        weights(x, 1, 1, 3, 4, 5, 6, 6);
        weights(x, 0, 1, 2, 1, 2, 3, 4);
        x.sheet(2, 2, 2);
        T.due("copy into a shorter one", x.copy(0, 3, 2, 0, 3), -12);
        T.due("copy from a shorter one", x.copy(2, 0, 0, 0, 3), -12);
    }
}
