/** Promises 1 to 8, 23 to 28: boxes, help, looks, image. */
public final class BoxesTest {
    private static final Dues T = new Dues();

    public static void main(String[] args) {
        newObject();
        boxesAndLooks();
        lay();
        swapAndEmpty();
        boxAndRings();
        help();
        enough();
        order();
        imageAndBack();
        count();
        T.end();
    }

    private static void newObject() {
        HundredBoxes x = new HundredBoxes();
        int[] counts = {6, 3, 0, 1, 0, 0};
        for (int what = 0; what < 6; what++) {
            T.due("new count(" + what + ")", x.count(what), counts[what]);
        }
        for (int box = 0; box < 6; box++) {
            T.due("new box(" + box + ", 0)", x.box(box, 0), box);
            T.due("new box(" + box + ", 1)", x.box(box, 1), 1);
        }
        T.due("new back()", x.back(), -3);
        T.due("new bet()", x.bet(), 5);
        T.due("new feed", x.feed(1, 0), 1);
        for (int sheet = 0; sheet < 4; sheet++) {
            T.due("new lay(" + sheet + ")", x.lay(sheet), -11);
        }
        T.due("constants", HundredBoxes.NONE + 10 * HundredBoxes.BAD + 100 * HundredBoxes.STATE + 1000 * HundredBoxes.FULL, -4321);
        T.due("NO", HundredBoxes.NO, Dues.NO);
    }

    private static void boxesAndLooks() {
        HundredBoxes x = new HundredBoxes();
        T.due("boxes(12)", x.boxes(12), 6);
        T.due("box(11, 0)", x.box(11, 0), 11);
        T.due("swap(0, 11)", x.swap(0, 11), 1);
        T.due("boxes(12) again", x.boxes(12), 12);
        T.due("box(0, 0)", x.box(0, 0), 0);
        T.due("boxes(1)", x.boxes(1), 12);
        for (int n : new int[] {0, -1, 13, Integer.MAX_VALUE, Integer.MIN_VALUE}) {
            T.due("boxes(" + n + ")", x.boxes(n), -2);
            T.due("looks(" + n + ")", x.looks(n), -2);
        }
        T.due("count(0)", x.count(0), 1);
        T.due("looks(12)", x.looks(12), 3);
        T.due("looks(1)", x.looks(1), 12);
        T.due("boxes(4)", x.boxes(4), 1);
        T.due("count(1)", x.count(1), 1);
    }

    private static void lay() {
        HundredBoxes x = new HundredBoxes();
        T.due("lay(-1)", x.lay(-1), -2);
        T.due("lay(4)", x.lay(4), -2);
        Dues.row(x, 0, 0, 5, 4, -1, -1, 0, 255);
        T.due("lay of bytes", x.lay(0), 3);
        T.due("box(0, 0)", x.box(0, 0), 5);
        T.due("box(2, 0)", x.box(2, 0), -1);
        T.due("box(5, 0)", x.box(5, 0), -1);
        Dues.row(x, 0, 1, 65536, 65537, 2, 3, 4, 5);
        T.due("lay of shorts", x.lay(0), 6);
        Dues.row(x, 0, 2, 65536, 1, 2, 3, 4, 5);
        T.due("lay, too great", x.lay(0), -2);
        Dues.row(x, 0, 2, 0, 1, 2, 3, 4, 6);
        T.due("lay, 6 of 6", x.lay(0), -2);
        Dues.row(x, 0, 2, 0, 1, 2, 3, 4, -2);
        T.due("lay, -2", x.lay(0), -2);
        Dues.row(x, 0, 2, 0, 1, 2, 3, 4, 0);
        T.due("lay, alike", x.lay(0), -2);
        Dues.row(x, 0, 2, 0, 1, 2, 3, 4);
        T.due("lay, too short", x.lay(0), -2);
        Dues.row(x, 0, 2, 0, 1, 2, 3, 4, 5, 6);
        T.due("lay, too long", x.lay(0), -2);
        x.sheet(0, 0, 0);
        T.due("lay, empty row", x.lay(0), -2);
        T.due("box as before", x.box(5, 0), 5);
        Dues.row(x, 0, 2, -1, -1, -1, -1, -1, -1);
        T.due("lay of nothing", x.lay(0), 0);
        T.due("rings(2)", x.rings(2), 6);
    }

    private static void swapAndEmpty() {
        HundredBoxes x = new HundredBoxes();
        T.due("swap(1, 4)", x.swap(1, 4), 1);
        T.due("box(1, 0)", x.box(1, 0), 4);
        T.due("box(4, 0)", x.box(4, 0), 1);
        T.due("swap(2, 2)", x.swap(2, 2), -2);
        T.due("swap(-1, 2)", x.swap(-1, 2), -2);
        T.due("swap(2, -1)", x.swap(2, -1), -2);
        T.due("swap(6, 2)", x.swap(6, 2), -2);
        T.due("swap(2, 6)", x.swap(2, 6), -2);
        T.due("empty(1)", x.empty(1), 4);
        T.due("box(1, 0) empty", x.box(1, 0), -1);
        T.due("empty(1) again", x.empty(1), -3);
        T.due("empty(-1)", x.empty(-1), -2);
        T.due("empty(6)", x.empty(6), -2);
        T.due("swap with nothing", x.swap(1, 0), 1);
        T.due("box(0, 0) nothing", x.box(0, 0), -1);
        T.due("box(1, 0) has 0", x.box(1, 0), 0);
        T.due("empty(1) of 0", x.empty(1), 0);
    }

    private static void boxAndRings() {
        HundredBoxes x = new HundredBoxes();
        Dues.lay(x, 1, 2, 0, 4, -1, 5, 7, 6);
        int[] lengths = {3, 3, 3, 0, 0, 1, 2, 2};
        for (int box = 0; box < 8; box++) {
            T.due("box(" + box + ", 1)", x.box(box, 1), lengths[box]);
        }
        T.due("rings(0)", x.rings(0), 3);
        T.due("rings(1)", x.rings(1), 3);
        T.due("rings(2)", x.rings(2), 1);
        T.due("rings(-1)", x.rings(-1), -2);
        T.due("rings(3)", x.rings(3), -2);
        T.due("box(8, 0)", x.box(8, 0), -2);
        T.due("box(-1, 0)", x.box(-1, 0), -2);
        T.due("box(0, -1)", x.box(0, -1), -2);
        T.due("box(0, 2)", x.box(0, 2), -2);
        Dues.lay(x, 1, 2, 3, 4, 5, 6, 7, 8, 9, 10, 11, 0);
        T.due("box(5, 1), one ring", x.box(5, 1), 12);
        T.due("rings(1), one ring", x.rings(1), 12);
        // a way into nothing that is met in its midst first
        Dues.lay(x, 2, 0, -1, 3);
        T.due("rings(0) of a way", x.rings(0), 1);
        T.due("rings(1) of a way", x.rings(1), 1);
        T.due("box(1, 1) of a way", x.box(1, 1), 0);
    }

    private static void help() {
        HundredBoxes x = new HundredBoxes();
        T.due("help(0), all own", x.help(0), -1);
        T.due("help(1), all own", x.help(1), -1);
        T.due("help(2), all own", x.help(2), -1);
        T.due("help(3), all own", x.help(3), -2);
        T.due("help(-1)", x.help(-1), -2);
        Dues.lay(x, 1, 0, 3, 2);
        T.due("help(0), two rings of two", x.help(0), -1);
        Dues.lay(x, 0, 2, 3, 4, 1);
        x.looks(2);
        T.due("help(0), ring of four", x.help(0), 12 + 3);
        T.due("help(1), ring of four", x.help(1), 2);
        T.due("help(2), ring of four", x.help(2), 1);
        x.looks(1);
        T.due("help(2), one look", x.help(2), 0);
        x.looks(2);
        Dues.lay(x, -1, 2, 3, 4, 1);
        T.due("help(0), with nothing", x.help(0), 1);
        T.due("help(1), with nothing", x.help(1), 0);
        T.due("help(2), missing", x.help(2), 0);
        T.due("box unchanged", x.box(1, 0), 2);
    }

    private static void enough() {
        HundredBoxes x = new HundredBoxes();
        T.due("enough(4, 41)", x.enough(4, 41), 2);
        T.due("enough(4, 42)", x.enough(4, 42), 3);
        T.due("enough(2, 50)", x.enough(2, 50), 1);
        T.due("enough(2, 51)", x.enough(2, 51), 2);
        T.due("enough(1, 100)", x.enough(1, 100), 1);
        T.due("enough(1, 0)", x.enough(1, 0), 0);
        T.due("enough(12, 1)", x.enough(12, 1), 3);
        T.due("enough(12, 99)", x.enough(12, 99), 12);
        for (int wrong : new int[] {-1, 0, 13}) {
            T.due("enough(" + wrong + ", 5)", x.enough(wrong, 5), -2);
        }
        T.due("enough(5, -1)", x.enough(5, -1), -2);
        T.due("enough(5, 101)", x.enough(5, 101), -2);
    }

    private static void order() {
        HundredBoxes x = new HundredBoxes();
        x.boxes(5);
        x.looks(2);
        Dues.row(x, 0, 2, 1, 99, 0, 99, 99);
        T.due("order(0, 0)", x.order(0, 0), 2 + 8);
        T.due("order(0, 1)", x.order(0, 1), 198);
        Dues.row(x, 0, 0, 0, 0, 0, 0, 0);
        T.due("order of like ones", x.order(0, 0), 3);
        T.due("order weighs", x.order(0, 1), 0);
        x.looks(12);
        T.due("order of all", x.order(0, 0), 31);
        T.due("order(-1, 0)", x.order(-1, 0), -2);
        T.due("order(4, 0)", x.order(4, 0), -2);
        T.due("order(0, 2)", x.order(0, 2), -2);
        T.due("order(1, 0)", x.order(1, 0), -11);
        T.due("order(1, -1)", x.order(1, -1), -2);
        Dues.row(x, 0, 2, 0, 0, 0, 0, 100);
        T.due("order, 100", x.order(0, 0), -2);
        Dues.row(x, 0, 2, 0, 0, 0, 0, -1);
        T.due("order, -1", x.order(0, 1), -2);
        Dues.row(x, 0, 2, 0, 0, 0, 0);
        T.due("order, too short", x.order(0, 0), -2);
        Dues.row(x, 0, 2, 0, 0, 0, 0, 0, 0);
        T.due("order, too long", x.order(0, 0), -2);
    }

    private static void imageAndBack() {
        HundredBoxes x = new HundredBoxes();
        T.due("back, none", x.back(), -3);
        Dues.text(x, "home 0 ; some 1 ; bet 7 ;");
        Dues.lay(x, 1, -1, 0);
        x.looks(2);
        x.force(1);
        x.plan(0, 0);
        T.due("image()", x.image(), 3);
        x.empty(0);
        x.boxes(9);
        x.looks(7);
        x.force(0);
        x.plan(1, 1);
        x.feed(3, 0);
        T.due("back()", x.back(), 3);
        T.due("box(0, 0)", x.box(0, 0), 1);
        T.due("box(1, 0)", x.box(1, 0), -1);
        T.due("box(2, 0)", x.box(2, 0), 0);
        int[] counts = {3, 2, 2, 2, 3, 1};
        for (int what = 0; what < 6; what++) {
            T.due("count(" + what + ") behind back", x.count(what), counts[what]);
        }
        x.boxes(2);
        T.due("back() again", x.back(), 3);
        x.boxes(2);
        T.due("image() again", x.image(), 2);
        x.boxes(4);
        T.due("back() to the second", x.back(), 2);
    }

    private static void count() {
        HundredBoxes x = new HundredBoxes();
        x.boxes(9);
        x.looks(4);
        x.plan(2, 2);
        x.plan(3, 2);
        Dues.text(x, "home 0 ; some 1 ; bet 7 ;");
        x.force(1);
        x.feed(5, 0);
        int[] counts = {9, 4, 2, 2, 5, 1};
        for (int what = 0; what < 6; what++) {
            T.due("count(" + what + ")", x.count(what), counts[what]);
        }
        T.due("count(6)", x.count(6), -2);
        T.due("count(-1)", x.count(-1), -2);
    }
}
