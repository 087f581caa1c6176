import java.util.function.Consumer;
import java.util.function.ToLongFunction;

/**
 * Each refused call: its answer, and that it changes nothing. The call is asked of one of two twins; behind it
 * both must tell the same.
 */
public final class RefusalsTest {
    private static final Dues T = new Dues();
    private static final int MIN = Integer.MIN_VALUE, MAX = Integer.MAX_VALUE;

    public static void main(String[] args) {
        boxes();
        lay();
        tapeAndTexts();
        plans();
        runs();
        allLayings();
        helpAndLooks();
        order();
        imageAndCount();
        sheetsAndCells();
        copies();
        plansBySheet();
        taken();
        T.end();
    }

    /** Nothing kept yet, room for more of all: 5 boxes, 2 looks, two plans, two texts. */
    private static HundredBoxes half() {
        HundredBoxes x = new HundredBoxes();
        x.plan(2, 3);
        x.plan(4, 1);
        Dues.text(x, "home 0;some found+1;bet 44;");
        Dues.feed(x, "home 1;some 2;bet 77;");
        x.force(1);
        laying(x);
        return x;
    }

    /** 5 boxes, 2 looks, and no room: 8 plans, 6 texts, 160 bytes; an image of 4 boxes. */
    private static HundredBoxes full() {
        HundredBoxes x = new HundredBoxes();
        Dues.lay(x, 1, 0, 3, 2);
        x.looks(4);
        x.image();
        for (int plan = 0; plan < 8; plan++) {
            x.plan(plan % 6, plan);
        }
        for (int text = 1; text < 6; text++) {
            Dues.text(x, "home 0;some " + text + ";bet " + 10 * text + ";");
        }
        for (int i = 0; i < 20; i++) {
            x.feed(8, 0x2020202020202020L);
        }
        x.force(3);
        laying(x);
        return x;
    }

    private static void laying(HundredBoxes x) {
        Dues.lay(x, 2, -1, 1, 4, 3);
        x.sheet(3, -1, 0);
        Dues.row(x, 0, 2, 10, 20, 30, 40, 50);
        Dues.row(x, 1, 0, 1, 2, 3, 4, 5);
        Dues.row(x, 2, 1, 6, 7, 8, 9, 11);
        x.looks(2);
    }

    private static void compare(String call, HundredBoxes x, HundredBoxes twin, long want,
            Consumer<HundredBoxes> ahead, ToLongFunction<HundredBoxes> asked) {
        ahead.accept(x);
        ahead.accept(twin);
        T.due(call, asked.applyAsLong(x), want);
        T.dueText(call + " changes", Report.of(x), Report.of(twin));
    }

    private static void inHalf(String call, long want, Consumer<HundredBoxes> ahead, ToLongFunction<HundredBoxes> asked) {
        compare(call + " in a half full one", half(), half(), want, ahead, asked);
    }

    private static void inFull(String call, long want, Consumer<HundredBoxes> ahead, ToLongFunction<HundredBoxes> asked) {
        compare(call + " in a full one", full(), full(), want, ahead, asked);
    }

    /** Refused in both, behind some calls. */
    private static void refused(String call, long want, Consumer<HundredBoxes> ahead, ToLongFunction<HundredBoxes> asked) {
        inHalf(call, want, ahead, asked);
        inFull(call, want, ahead, asked);
    }

    private static void refused(String call, long want, ToLongFunction<HundredBoxes> asked) {
        refused(call, want, x -> { }, asked);
    }

    private interface One {
        long ask(HundredBoxes x, int value);
    }

    /** Refused for what lies under low and above high, next to them and far away. */
    private static void outside(String call, int low, int high, long want, One asked) {
        for (int value : new int[] {low - 1, low - 2, high + 1, high + 2, -100, 100, 256, 65536, MIN, MIN + 1, MAX, MAX - 1}) {
            if (value < low || value > high) {
                refused(call.replace("?", "" + value), want, x -> asked.ask(x, value));
            }
        }
    }

    private static void boxes() {
        T.about("Promise 2: boxes .. BAD");
        outside("boxes(?)", 1, 12, -2, (x, v) -> x.boxes(v));
        T.about("Promise 3: looks .. BAD");
        outside("looks(?)", 1, 12, -2, (x, v) -> x.looks(v));
        T.about("Promise 5: swap .. BAD (alike, too)");
        outside("swap(?, 0)", 0, 4, -2, (x, v) -> x.swap(v, 0));
        outside("swap(0, ?)", 0, 4, -2, (x, v) -> x.swap(0, v));
        outside("swap(?, ?)", 0, 4, -2, (x, v) -> x.swap(v, v));
        for (int box = 0; box < 5; box++) {
            int alike = box;
            refused("swap(" + box + ", " + box + ")", -2, x -> x.swap(alike, alike));
        }
        T.about("Promise 6: empty .. BAD");
        outside("empty(?)", 0, 4, -2, (x, v) -> x.empty(v));
        T.about("Promise 6: empty .. STATE: nothing lies there");
        refused("empty(1)", -3, x -> x.empty(1));
        T.about("Promise 7: box .. BAD");
        outside("box(?, 0)", 0, 4, -2, (x, v) -> x.box(v, 0));
        outside("box(?, 1)", 0, 4, -2, (x, v) -> x.box(v, 1));
        outside("box(0, ?)", 0, 1, -2, (x, v) -> x.box(0, v));
        T.about("Promise 8: rings .. BAD");
        outside("rings(?)", 0, 2, -2, (x, v) -> x.rings(v));
    }

    private static void lays(String call, long want, int sort, int... numbers) {
        refused(call, want, x -> Dues.row(x, 0, sort, numbers), x -> x.lay(0));
    }

    private static void lay() {
        T.about("Promise 4: lay .. BAD: SHEET");
        outside("lay(?)", 0, 3, -2, (x, v) -> x.lay(v));
        T.about("Promise 4: lay .. -11");
        refused("lay(3)", -11, x -> x.lay(3));
        T.about("Promise 4: lay .. BAD: its size isn't n");
        lays("lay of 4", -2, 0, 0, 1, 2, 3);
        lays("lay of 6", -2, 1, 0, 1, 2, 3, 4, -1);
        lays("lay of 0", -2, 2);
        lays("lay of 40", -2, 2, new int[40]);
        T.about("Promise 4: lay .. BAD: a number");
        for (int sort = 0; sort < 3; sort++) {
            lays("lay with 5", -2, sort, 0, 1, 2, 3, 5);
            lays("lay with 5 first", -2, sort, 5, 1, 2, 3, 4);
            lays("lay with -2", -2, sort, 0, 1, 2, 3, -2);
            lays("lay with 127", -2, sort, 0, 1, 127, 3, 4);
        }
        lays("lay with 32", -2, 2, 32, 1, 2, 3, 4);
        lays("lay with 64", -2, 2, 64, 1, 2, 3, 4);
        lays("lay with the greatest", -2, 2, 0, 1, 2, 3, MAX);
        lays("lay with the least", -2, 2, 0, 1, 2, 3, MIN);
        T.about("Promise 4: lay .. BAD: a number (alike ones, too)");
        lays("lay with two 0", -2, 0, 0, 0, 1, 2, 3);
        lays("lay with two 4", -2, 1, 4, 1, 2, 3, 4);
        lays("lay with all alike", -2, 2, 2, 2, 2, 2, 2);
    }

    private static void tapeAndTexts() {
        T.about("Promise 9: feed .. BAD: n is not 1 .. 8 (ahead of FULL)");
        outside("feed(?, 65)", 1, 8, -2, (x, v) -> x.feed(v, 65));
        T.about("Promise 9: feed .. FULL");
        for (int n = 1; n <= 8; n++) {
            int bytes = n;
            inFull("feed(" + n + ", 65)", -4, x -> { }, x -> x.feed(bytes, 65));
        }
        T.about("Promise 10: text .. FULL (ahead of all) (THE TAPE stays)");
        inFull("text()", -4, x -> { }, x -> x.text());
        T.about("Promise 11: force .. BAD");
        outside("force(?)", 0, 5, -2, (x, v) -> x.force(v));
        for (int text = 2; text < 6; text++) {
            int none = text;
            inHalf("force(" + text + ")", -2, x -> { }, x -> x.force(none));
        }
    }

    private static void plans() {
        T.about("Promise 13: plan .. BAD (ahead of FULL)");
        outside("plan(?, 0)", 0, 5, -2, (x, v) -> x.plan(v, 0));
        outside("plan(0, ?)", 0, 11, -2, (x, v) -> x.plan(0, v));
        outside("plan(?, ?)", 0, 11, -2, (x, v) -> x.plan(v, v));
        T.about("Promise 13: plan .. FULL");
        for (int kind = 0; kind < 6; kind++) {
            int room = kind;
            inFull("plan(" + kind + ", 0)", -4, x -> { }, x -> x.plan(room, 0));
        }
        T.about("Promise 14: next .. BAD");
        outside("next(?, 0, 0, 0)", 0, 7, -2, (x, v) -> x.next(v, 0, 0, 0));
        outside("next(?, 0, 0, 1)", 0, 7, -2, (x, v) -> x.next(v, 0, 0, 1));
        inHalf("next(2, 0, 0, 0)", -2, x -> { }, x -> x.next(2, 0, 0, 0));
        outside("next(0, ?, 0, 0)", 0, 4, -2, (x, v) -> x.next(0, v, 0, 0));
        outside("next(0, ?, 0, 1)", 0, 4, -2, (x, v) -> x.next(0, v, 0, 1));
        outside("next(0, 0, ?, 1)", 0, 4, -2, (x, v) -> x.next(0, 0, v, 1));
        outside("next(0, 0, ?, 12)", 0, 4, -2, (x, v) -> x.next(0, 0, v, 12));
        outside("next(0, 0, 0, ?)", 0, 12, -2, (x, v) -> x.next(0, 0, 0, v));
    }

    private static void runs() {
        T.about("Promise 15: found .. BAD");
        outside("found(?, 0)", 0, 7, -2, (x, v) -> x.found(v, 0));
        inHalf("found(2, 0)", -2, x -> { }, x -> x.found(2, 0));
        outside("found(0, ?)", 0, 4, -2, (x, v) -> x.found(0, v));
        T.about("Promise 16: run .. BAD");
        outside("run(?, 2)", 0, 7, -2, (x, v) -> x.run(v, 2));
        inHalf("run(2, 2)", -2, x -> { }, x -> x.run(2, 2));
        outside("run(0, ?)", 0, 2, -2, (x, v) -> x.run(0, v));
    }

    private static void allLayings() {
        T.about("Promise 17: closed .. NO");
        outside("closed(?, 2)", 1, 12, Dues.NO, (x, v) -> x.closed(v, 2));
        outside("closed(2, ?)", 0, 12, Dues.NO, (x, v) -> x.closed(2, v));
        T.about("Promise 18: wins .. NO: none such");
        outside("wins(?, 0)", 0, 7, Dues.NO, (x, v) -> x.wins(v, 0));
        outside("wins(?, 1)", 0, 7, Dues.NO, (x, v) -> x.wins(v, 1));
        inHalf("wins(2, 1)", Dues.NO, x -> { }, x -> x.wins(2, 1));
        outside("wins(0, ?)", 0, 1, Dues.NO, (x, v) -> x.wins(0, v));
        T.about("Promise 19: mean .. NO: none such");
        outside("mean(?, 0)", 0, 7, Dues.NO, (x, v) -> x.mean(v, 0));
        outside("mean(?, 1)", 0, 7, Dues.NO, (x, v) -> x.mean(v, 1));
        inHalf("mean(2, 1)", Dues.NO, x -> { }, x -> x.mean(2, 1));
        outside("mean(0, ?)", 0, 1, Dues.NO, (x, v) -> x.mean(0, v));
        T.about("Promise 20: worst .. BAD");
        outside("worst(?, 0)", 0, 7, -2, (x, v) -> x.worst(v, 0));
        inHalf("worst(2, 0)", -2, x -> { }, x -> x.worst(2, 0));
        outside("worst(0, ?)", 0, 1, -2, (x, v) -> x.worst(0, v));
        T.about("Promise 21: draws .. BAD");
        outside("draws(?)", 0, 1, -2, (x, v) -> x.draws(v));
        T.about("Promise 22: costs .. NO: none such");
        outside("costs(?)", 0, 7, Dues.NO, (x, v) -> x.costs(v));
        inHalf("costs(2)", Dues.NO, x -> { }, x -> x.costs(2));
        for (int n = 8; n <= 12; n++) {
            above7(n);
        }
    }

    private static void above7(int n) {
        Consumer<HundredBoxes> many = x -> x.boxes(n);
        T.about("Promises 18, 19, 22: NO: n above 7: " + n);
        for (int part = 0; part < 2; part++) {
            int asked = part;
            refused("wins(0, " + part + ")", Dues.NO, many, x -> x.wins(0, asked));
            refused("mean(0, " + part + ")", Dues.NO, many, x -> x.mean(0, asked));
            T.about("Promise 20: STATE: n is above 7: " + n);
            refused("worst(0, " + part + ")", -3, many, x -> x.worst(0, asked));
        }
        refused("costs(0)", Dues.NO, many, x -> x.costs(0));
        T.about("Promise 20: BAD ahead of STATE: " + n);
        refused("worst(8, 0)", -2, many, x -> x.worst(8, 0));
        refused("worst(0, 2)", -2, many, x -> x.worst(0, 2));
        T.about("Promise 21: BAD ahead of STATE: what 1, n is above 7: " + n);
        refused("draws(1)", -3, many, x -> x.draws(1));
        refused("draws(2)", -2, many, x -> x.draws(2));
        refused("draws(-1)", -2, many, x -> x.draws(-1));
    }

    private static void helpAndLooks() {
        T.about("Promise 23: help .. BAD (ahead of NONE)");
        outside("help(?)", 0, 2, -2, (x, v) -> x.help(v));
        T.about("Promise 23: help .. NONE (whatever what is)");
        for (int what = 0; what < 3; what++) {
            int asked = what;
            refused("help(" + what + ") of own ones", -1, x -> x.boxes(5), x -> x.help(asked));
        }
        refused("help(3) of own ones", -2, x -> x.boxes(5), x -> x.help(3));
        T.about("Promise 24: enough .. BAD");
        outside("enough(?, 50)", 1, 12, -2, (x, v) -> x.enough(v, 50));
        outside("enough(?, 0)", 1, 12, -2, (x, v) -> x.enough(v, 0));
        outside("enough(5, ?)", 0, 100, -2, (x, v) -> x.enough(5, v));
    }

    private static void orders(String call, long want, int sort, int... weights) {
        for (int what = 0; what < 2; what++) {
            int asked = what;
            refused(call + ", what " + what, want, x -> Dues.row(x, 0, sort, weights), x -> x.order(0, asked));
        }
    }

    private static void order() {
        T.about("Promise 25: order .. BAD: SHEET, what (ahead of -11)");
        outside("order(?, 0)", 0, 3, -2, (x, v) -> x.order(v, 0));
        outside("order(0, ?)", 0, 1, -2, (x, v) -> x.order(0, v));
        outside("order(3, ?)", 0, 1, -2, (x, v) -> x.order(3, v));
        T.about("Promise 25: order .. -11");
        refused("order(3, 0)", -11, x -> x.order(3, 0));
        refused("order(3, 1)", -11, x -> x.order(3, 1));
        T.about("Promise 25: order .. BAD: its size");
        orders("order of 4", -2, 0, 1, 2, 3, 4);
        orders("order of 6", -2, 1, 1, 2, 3, 4, 5, 6);
        orders("order of 0", -2, 2);
        T.about("Promise 25: order .. BAD: a number");
        for (int sort = 0; sort < 3; sort++) {
            orders("order with 100", -2, sort, 1, 2, 3, 4, 100);
            orders("order with 100 first", -2, sort, 100, 2, 3, 4, 5);
            orders("order with -1", -2, sort, 1, 2, 3, 4, -1);
            orders("order with -1 first", -2, sort, -1, 2, 3, 4, 5);
        }
        orders("order with the greatest", -2, 2, 1, 2, MAX, 4, 5);
        orders("order with the least", -2, 2, 1, 2, MIN, 4, 5);
    }

    private static void imageAndCount() {
        T.about("Promise 27: back .. STATE: there is none");
        inHalf("back()", -3, x -> { }, x -> x.back());
        T.about("Promise 28: count .. BAD");
        outside("count(?)", 0, 5, -2, (x, v) -> x.count(v));
    }

    private static void sheetsAndCells() {
        T.about("Promise 29: sheet .. BAD: no such SHEET (ahead of -14)");
        outside("sheet(?, 0, 1)", 0, 3, -2, (x, v) -> x.sheet(v, 0, 1));
        outside("sheet(?, -1, 1)", 0, 3, -2, (x, v) -> x.sheet(v, -1, 1));
        outside("sheet(?, 0, -1)", 0, 3, -2, (x, v) -> x.sheet(v, 0, -1));
        T.about("Promise 29: sheet .. BAD: no such sort (ahead of -14)");
        outside("sheet(0, ?, 1)", -1, 2, -2, (x, v) -> x.sheet(0, v, 1));
        outside("sheet(0, ?, -1)", -1, 2, -2, (x, v) -> x.sheet(0, v, -1));
        T.about("Promise 29: sheet .. BAD: n above 40; -14");
        for (int sort = 0; sort < 3; sort++) {
            int asked = sort;
            for (int n : new int[] {41, 42, 256, MAX}) {
                refused("sheet(0, " + sort + ", " + n + ")", -2, x -> x.sheet(0, asked, n));
            }
            for (int n : new int[] {-1, -2, -256, MIN}) {
                refused("sheet(0, " + sort + ", " + n + ")", -14, x -> x.sheet(0, asked, n));
            }
        }
        T.about("Promise 30: cell .. BAD: no such SHEET");
        outside("cell(?, 0, 9)", 0, 3, -2, (x, v) -> x.cell(v, 0, 9));
        T.about("Promise 30: cell .. -11 (ahead of -12)");
        refused("cell(3, 0, 9)", -11, x -> x.cell(3, 0, 9));
        refused("cell(3, -1, 9)", -11, x -> x.cell(3, -1, 9));
        T.about("Promise 30: cell .. -12");
        for (int sheet = 0; sheet < 3; sheet++) {
            int asked = sheet;
            outside("cell(" + sheet + ", ?, 9)", 0, 4, -12, (x, v) -> x.cell(asked, v, 9));
        }
    }

    private static void copies() {
        T.about("Promise 31: copy .. BAD: no such SHEET (ahead of -11, -12)");
        outside("copy(?, 0, 0, 0, 1)", 0, 3, -2, (x, v) -> x.copy(v, 0, 0, 0, 1));
        outside("copy(0, 0, ?, 0, 1)", 0, 3, -2, (x, v) -> x.copy(0, 0, v, 0, 1));
        outside("copy(3, -1, ?, 0, -1)", 0, 3, -2, (x, v) -> x.copy(3, -1, v, 0, -1));
        outside("copy(?, -1, 3, 0, -1)", 0, 3, -2, (x, v) -> x.copy(v, -1, 3, 0, -1));
        T.about("Promise 31: copy .. -11 (ahead of -12)");
        refused("copy(3, 0, 0, 0, 1)", -11, x -> x.copy(3, 0, 0, 0, 1));
        refused("copy(0, 0, 3, 0, 1)", -11, x -> x.copy(0, 0, 3, 0, 1));
        refused("copy(3, 0, 3, 0, 0)", -11, x -> x.copy(3, 0, 3, 0, 0));
        refused("copy(3, -1, 0, 99, -1)", -11, x -> x.copy(3, -1, 0, 99, -1));
        refused("copy(0, -1, 3, 99, -1)", -11, x -> x.copy(0, -1, 3, 99, -1));
        T.about("Promise 31: copy .. -13: they are of unlike sorts (ahead of -12)");
        for (int sheet = 0; sheet < 3; sheet++) {
            int from = sheet;
            int to = (sheet + 1) % 3;
            refused("copy of unlike " + from + " to " + to, -13, x -> x.copy(from, 0, to, 0, 1));
            refused("copy of unlike " + to + " to " + from, -13, x -> x.copy(to, 0, from, 0, 0));
            refused("copy of unlike, outside", -13, x -> x.copy(from, -1, to, 99, -1));
        }
        T.about("Promise 31: copy .. -12 (also with n below 0)");
        outside("copy(0, ?, 0, 0, 1)", 0, 4, -12, (x, v) -> x.copy(0, v, 0, 0, 1));
        outside("copy(0, 0, 0, ?, 1)", 0, 4, -12, (x, v) -> x.copy(0, 0, 0, v, 1));
        outside("copy(0, ?, 0, 0, 0)", 0, 5, -12, (x, v) -> x.copy(0, v, 0, 0, 0));
        outside("copy(0, 0, 0, ?, 0)", 0, 5, -12, (x, v) -> x.copy(0, 0, 0, v, 0));
        outside("copy(0, 0, 0, 0, ?)", 0, 5, -12, (x, v) -> x.copy(0, 0, 0, 0, v));
        outside("copy(0, 1, 0, 0, ?)", 0, 4, -12, (x, v) -> x.copy(0, 1, 0, 0, v));
        outside("copy(0, 0, 0, 1, ?)", 0, 4, -12, (x, v) -> x.copy(0, 0, 0, 1, v));
        outside("copy(0, 5, 0, 5, ?)", 0, 0, -12, (x, v) -> x.copy(0, 5, 0, 5, v));
        outside("copy(0, greatest, 0, 0, ?)", 1, 0, -12, (x, v) -> x.copy(0, MAX, 0, 0, v));
        outside("copy(0, 0, 0, greatest, ?)", 1, 0, -12, (x, v) -> x.copy(0, 0, 0, MAX, v));
    }

    private static void plansBySheet() {
        T.about("Promise 32: plans .. BAD: no such SHEET (ahead of -12)");
        outside("plans(?, 2, 0, 1)", 0, 3, -2, (x, v) -> x.plans(v, 2, 0, 1));
        outside("plans(?, 2, -1, 1)", 0, 3, -2, (x, v) -> x.plans(v, 2, -1, 1));
        T.about("Promise 32: plans .. BAD: no such sort (ahead of -13, -11)");
        outside("plans(0, ?, 0, 1)", 0, 2, -2, (x, v) -> x.plans(0, v, 0, 1));
        outside("plans(3, ?, 0, 1)", 0, 2, -2, (x, v) -> x.plans(3, v, 0, 1));
        T.about("Promise 32: plans .. BAD: no such n (ahead of -13, -11, -12)");
        outside("plans(1, 0, 0, ?)", 0, 8, -2, (x, v) -> x.plans(1, 0, 0, v));
        outside("plans(1, 1, 0, ?)", 0, 8, -2, (x, v) -> x.plans(1, 1, 0, v));
        outside("plans(3, 0, -1, ?)", 0, 8, -2, (x, v) -> x.plans(3, 0, -1, v));
        T.about("Promise 32: plans .. -13 (ahead of -12)");
        int[] sorts = {2, 0, 1};
        for (int sheet = 0; sheet < 3; sheet++) {
            for (int sort = 0; sort < 3; sort++) {
                if (sort != sorts[sheet]) {
                    int from = sheet;
                    int asked = sort;
                    refused("plans(" + from + ", " + sort + ", 0, 1)", -13, x -> x.plans(from, asked, 0, 1));
                    refused("plans(" + from + ", " + sort + ", 0, 0)", -13, x -> x.plans(from, asked, 0, 0));
                    refused("plans(" + from + ", " + sort + ", -1, 8)", -13, x -> x.plans(from, asked, -1, 8));
                }
            }
        }
        T.about("Promise 32: plans .. -11 (ahead of -12)");
        for (int sort = 0; sort < 3; sort++) {
            int asked = sort;
            refused("plans(3, " + sort + ", 0, 0)", -11, x -> x.plans(3, asked, 0, 0));
            refused("plans(3, " + sort + ", -1, 8)", -11, x -> x.plans(3, asked, -1, 8));
        }
        T.about("Promise 32: plans .. -12: nothing stood ahead");
        outside("plans(1, 0, ?, 1)", 0, 3, -12, (x, v) -> x.plans(1, 0, v, 1));
        outside("plans(1, 0, ?, 8)", 0, 3, -12, (x, v) -> x.plans(1, 0, v, 8));
        T.about("Promise 32: plans .. (others are left out)");
        refused("plans of no such kinds", 0, x -> Dues.row(x, 1, 0, 6, 0, -1, 0, 0, 12, 0, -1), x -> x.plans(1, 0, 0, 4));
        inFull("plans, all are full", 0, x -> { }, x -> x.plans(1, 0, 0, 2));
    }

    private static void taken() {
        T.about("Promise 33: taken .. BAD: k (ahead of -11)");
        outside("taken(0, ?)", 0, 5, -2, (x, v) -> x.taken(0, v));
        outside("taken(99, ?)", 0, 5, -2, (x, v) -> x.taken(99, v));
        T.about("Promise 33: taken .. -11: no such PLAN");
        outside("taken(?, 0)", 0, 7, -11, (x, v) -> x.taken(v, 0));
        outside("taken(?, 5)", 0, 7, -11, (x, v) -> x.taken(v, 5));
        inHalf("taken(2, 0)", -11, x -> { }, x -> x.taken(2, 0));
        T.about("Promise 33: taken .. -13");
        refused("taken(0, 5)", -13, x -> x.taken(0, 5));
        inHalf("taken(0, 3)", -13, x -> { }, x -> x.taken(0, 3));
    }
}
