/** Each boundary case that a promise's own sentence names, where nothing is refused (for what is: RefusalsTest). */
public final class PromisesEdgesTest {
    private static final Dues T = new Dues();
    private static final int MIN = Integer.MIN_VALUE, MAX = Integer.MAX_VALUE;

    public static void main(String[] args) {
        newObject();
        boxesAndLooks();
        lay();
        swapAndEmpty();
        boxAndRings();
        feed();
        text();
        textsBehindFaults();
        forceAndBet();
        planAndNext();
        runs();
        closedAndWins();
        meanAndWorst();
        drawsAndCosts();
        helpAndEnough();
        order();
        imageAndBack();
        count();
        sheet();
        cell();
        copy();
        plans();
        plansLeftOut();
        taken();
        T.end();
    }

    private static HundredBoxes withPlan(int n, int looks, int kind, int number) {
        HundredBoxes x = new HundredBoxes();
        x.boxes(n);
        x.looks(looks);
        x.plan(kind, number);
        return x;
    }

    private static void lies(HundredBoxes x, int... numbers) {
        T.due("how many boxes", x.count(0), numbers.length);
        for (int box = 0; box < numbers.length; box++) {
            T.due("box(" + box + ", 0)", x.box(box, 0), numbers[box]);
        }
    }

    private static void newObject() {
        T.about("Promise 1: 6 boxes, each with its own; 3 LOOKS");
        HundredBoxes x = new HundredBoxes();
        lies(x, 0, 1, 2, 3, 4, 5);
        T.due("rings", x.rings(0), 6);
        T.due("looks", x.count(1), 3);
        T.about("Promise 1: nothing else is there yet");
        T.due("plans", x.count(2), 0);
        T.due("texts", x.count(3), 1);
        T.due("tape", x.count(4), 0);
        T.due("rule", x.count(5), 0);
        T.due("image", x.back(), -3);
        T.about("Promise 1: a second object is a new one, too");
        x.boxes(2);
        x.looks(1);
        x.plan(0, 0);
        x.feed(1, 40);
        x.image();
        HundredBoxes y = new HundredBoxes();
        T.dueText("a second object", Report.of(y), Report.of(new HundredBoxes()));
        T.due("the first one's boxes", x.count(0), 2);
    }

    private static void boxesAndLooks() {
        T.about("Promise 2: each with its own, also where others lay, and where n is as it was");
        HundredBoxes x = Dues.laid(2, -1, 0);
        T.due("boxes(3)", x.boxes(3), 3);
        lies(x, 0, 1, 2);
        x.swap(0, 2);
        T.due("boxes(12)", x.boxes(12), 3);
        lies(x, 0, 1, 2, 3, 4, 5, 6, 7, 8, 9, 10, 11);
        x.empty(0);
        T.due("boxes(1)", x.boxes(1), 12);
        lies(x, 0);
        T.due("boxes(12) again", x.boxes(12), 1);
        lies(x, 0, 1, 2, 3, 4, 5, 6, 7, 8, 9, 10, 11);
        T.about("Promise 2: LOOKS stay, also above n");
        x.looks(12);
        x.boxes(1);
        T.due("looks", x.count(1), 12);
        T.about("Promise 3: how many there were, also as many as then");
        T.due("looks(12)", x.looks(12), 12);
        T.due("looks(1)", x.looks(1), 12);
        T.due("looks(1)", x.looks(1), 1);
    }

    private static void lay() {
        T.about("Promise 4: how many numbers lie there: none, some, all of 1 and of 12");
        HundredBoxes x = new HundredBoxes();
        int[] row = {11, 10, 9, 8, 7, 6, 5, 4, 3, 2, 1, 0};
        x.boxes(12);
        for (int sort = 0; sort < 3; sort++) {
            Dues.row(x, 0, sort, row);
            for (int numbers = 12; numbers > 0; numbers--) {
                T.due("lay of " + numbers + ", sort " + sort, x.lay(0), numbers);
                x.cell(0, numbers - 1, -1);
            }
            T.due("lay of none, sort " + sort, x.lay(0), 0);
            T.due("boxes with nothing", x.rings(2), 12);
        }
        x.boxes(1);
        Dues.row(x, 0, 0, -1);
        T.due("lay of nothing in one", x.lay(0), 0);
        Dues.row(x, 0, 0, 0);
        T.due("lay of one", x.lay(0), 1);
        T.about("Promise 4: what becomes of the SHEET later doesn't matter");
        x.cell(0, 0, -1);
        lies(x, 0);
        x.sheet(0, -1, 0);
        lies(x, 0);
    }

    private static void swapAndEmpty() {
        T.about("Promise 5: the first and the last box, in either order");
        HundredBoxes x = new HundredBoxes();
        x.boxes(12);
        T.due("swap(0, 11)", x.swap(0, 11), 1);
        lies(x, 11, 1, 2, 3, 4, 5, 6, 7, 8, 9, 10, 0);
        T.due("swap(11, 0)", x.swap(11, 0), 1);
        lies(x, 0, 1, 2, 3, 4, 5, 6, 7, 8, 9, 10, 11);
        T.about("Promise 5: nothing with a number, nothing with nothing");
        x = Dues.laid(-1, 1, -1);
        T.due("swap(0, 1)", x.swap(0, 1), 1);
        lies(x, 1, -1, -1);
        T.due("swap(1, 2)", x.swap(1, 2), 1);
        lies(x, 1, -1, -1);
        T.about("Promise 6: what it was: 0, and the greatest");
        x = new HundredBoxes();
        x.boxes(12);
        T.due("empty(0)", x.empty(0), 0);
        T.due("empty(11)", x.empty(11), 11);
        T.due("boxes with nothing", x.rings(2), 2);
        T.about("Promise 6: the last number of all");
        x.boxes(1);
        T.due("empty(0) of one", x.empty(0), 0);
        T.due("empty(0) again", x.empty(0), -3);
        lies(x, -1);
    }

    private static void boxAndRings() {
        T.about("Promise 7: 0 its NUMBER (-1)");
        HundredBoxes x = Dues.laid(1, -1);
        T.due("box(0, 0)", x.box(0, 0), 1);
        T.due("box(1, 0)", x.box(1, 0), -1);
        T.about("Promise 7: 1 how long its RING is: none, of one, of all");
        T.due("of a way into nothing", x.box(0, 1), 0);
        T.due("of nothing", x.box(1, 1), 0);
        x.boxes(2);
        T.due("of one", x.box(1, 1), 1);
        x.swap(0, 1);
        T.due("of all", x.box(1, 1), 2);
        T.about("Promise 8: how many (what 0), the longest (1), boxes with nothing (2): none and all");
        x = new HundredBoxes();
        x.boxes(12);
        int[] full = {12, 1, 0};
        int[] none = {0, 0, 12};
        for (int what = 0; what < 3; what++) {
            T.due("rings(" + what + "), all own", x.rings(what), full[what]);
        }
        for (int box = 0; box < 12; box++) {
            x.empty(box);
        }
        for (int what = 0; what < 3; what++) {
            T.due("rings(" + what + "), nothing", x.rings(what), none[what]);
        }
    }

    private static void feed() {
        T.about("Promise 9: the n lowest bytes: 1 and 8 of them, and no others");
        HundredBoxes x = new HundredBoxes();
        T.due("feed(1)", x.feed(1, 0x656d6f6868686868L), 1);
        T.due("feed(3)", x.feed(3, 0x28282828_28656d6fL), 4);
        T.due("home alone", x.text(), -104);
        T.about("Promise 9: the lowest first, the eighth, too");
        T.due("feed(8) of \"home 1;s\"", x.feed(8, 0x733b3120656d6f68L), 8);
        T.due("feed(7) of \"ome 2;b\"", x.feed(7, 0x623b3220656d6fL), 15);
        T.due("feed(5) of \"et 3;\"", x.feed(5, 0x3b33207465L), 20);
        T.due("the text", x.text(), 1);
        T.about("Promise 9: bytes above 127 are none of a number's sign");
        T.due("feed(8, -1)", x.feed(8, -1), 8);
        T.due("the text of it", x.text(), -100);
        T.due("feed(1, least)", x.feed(1, Long.MIN_VALUE), 1);
        T.due("a 0 only", x.text(), -100);
        T.about("Promise 9: how many it has, up to 160, by any n");
        for (int n = 1; n <= 8; n++) {
            x = new HundredBoxes();
            for (int size = n; size <= 160; size += n) {
                T.due("feed(" + n + ") to " + size, x.feed(n, 0), size);
            }
            int room = 160 % n;
            T.due("feed(" + n + ") into " + room, x.feed(n, 0), -4);
            T.due("the tape stays", x.count(4), 160 - room);
            if (room > 0) {
                T.due("feed(" + room + ")", x.feed(room, 0), 160);
            }
            T.due("one more", x.feed(1, 0), -4);
        }
    }

    private static void text() {
        T.about("Promise 10: THE TAPE is empty then (by a FAULT, too)");
        HundredBoxes x = new HundredBoxes();
        T.due("a text", Dues.text(x, "home 1;some 0;bet 1;"), 1);
        T.due("tape", x.count(4), 0);
        T.due("a fault", Dues.text(x, "home 1;some 0;bet 1"), -119);
        T.due("tape behind a fault", x.count(4), 0);
        T.due("a fault makes no text", x.count(3), 2);
        T.due("the next text is read from its own first byte", Dues.text(x, "home 1;some 0;bet 2;"), 2);
        T.about("Promise 10: -100 less the place of its FAULT: the first and the last there can be");
        T.due("of an empty tape", x.text(), -100);
        T.due("of the first byte", Dues.text(x, ";"), -100);
        StringBuilder whole = new StringBuilder("home 1;some 0;bet 1");
        while (whole.length() < 159) {
            whole.append(' ');
        }
        T.due("of the last byte", Dues.text(x, whole + "1"), -100 - 159);
        T.due("of the size", Dues.text(x, whole + " "), -100 - 160);
        T.due("a whole one of 160", Dues.text(x, whole + ";"), 3);
        T.about("Promise 10: FULL (ahead of all): with an empty TAPE, a faulty one, a whole one (THE TAPE stays)");
        T.due("text 4", Dues.text(x, "home 1;some 0;bet 4;"), 4);
        T.due("text 5", Dues.text(x, "home 1;some 0;bet 5;"), 5);
        T.due("full, empty", x.text(), -4);
        T.due("full, faulty", Dues.text(x, "%"), -4);
        T.due("tape", x.count(4), 1);
        T.due("full again", x.text(), -4);
        T.due("tape fed on", Dues.feed(x, "home"), 5);
        T.due("full, fed on", x.text(), -4);
        T.due("tape", x.count(4), 5);
        T.due("texts", x.count(3), 6);
    }

    private static void textsBehindFaults() {
        T.about("Promise 10: a FAULT leaves nothing of its text");
        String[] faulty = {
            "home 1;some 2;bet 3;;",
            "home 1;some 2;bet 3",
            "home " + "1+".repeat(76) + ";",
            "home 1;some " + "1<(".repeat(5) + "1",
            "-".repeat(160),
            "home 0;some 0;bet " + "2*".repeat(70) + "2",
        };
        for (int many = 1; many <= 3; many++) {
            HundredBoxes x = Dues.laid(1, 2, 0, 3);
            x.plan(0, 0);
            for (int i = 0; i < many; i++) {
                for (String text : faulty) {
                    T.due("a fault of \"" + text + "\"", Dues.text(x, text) <= -100 ? 1 : 0, 1);
                }
            }
            T.due("a text behind", Dues.text(x, "home longest=4;some men-2;bet longest*7;"), 1);
            T.due("the rule of old", x.bet(), 1);
            T.due("force", x.force(1), 0);
            T.due("bet", x.bet(), 21);
            T.due("run", x.run(0, 2), 2);
            x.force(0);
            T.due("bet by the rule of old", x.bet(), 1);
        }
    }

    private static void forceAndBet() {
        T.about("Promise 11: which was: itself, the first, the last");
        HundredBoxes x = new HundredBoxes();
        T.due("force(0)", x.force(0), 0);
        for (int text = 1; text < 6; text++) {
            T.due("not there yet", x.force(text), -2);
            Dues.text(x, "home 0;some 0;bet " + text + ";");
            T.due("force(" + text + ")", x.force(text), text - 1);
            T.due("force(" + text + ") again", x.force(text), text);
        }
        T.due("force(0)", x.force(0), 5);
        T.about("Promise 12: what bet comes to: below 0, as a refusal's number, too");
        String[] formulas = {"-1", "-2", "-3", "-4", "0-8192*8192*32", "8192*8192*32-1"};
        int[] bets = {-1, -2, -3, -4, MIN, MAX};
        for (int i = 0; i < formulas.length; i++) {
            x = new HundredBoxes();
            x.force(Dues.text(x, "home 0;some 0;bet " + formulas[i] + ";"));
            T.due("bet " + formulas[i], x.bet(), bets[i]);
        }
    }

    private static void planAndNext() {
        T.about("Promise 13: its number: 0 .. 7, each KIND, the NUMBERS 0 and 11");
        HundredBoxes x = new HundredBoxes();
        for (int i = 0; i < 8; i++) {
            T.due("plan " + i, x.plan(i % 6, i % 2 == 0 ? 0 : 11), i);
        }
        T.about("Promise 13: plans stay where boxes and looks change");
        x.boxes(1);
        x.looks(1);
        T.due("how many", x.count(2), 8);
        T.due("number of the last", x.taken(7, 1), 11);
        T.about("Promise 14: FIRST of a man (k 0; box doesn't matter)");
        x = withPlan(12, 1, 3, 5);
        for (int box : new int[] {MIN, -1, 0, 11, 12, MAX}) {
            T.due("next(0, 11, " + box + ", 0)", x.next(0, 11, box, 0), 4);
        }
        T.about("Promise 14: NEXT behind a box (k 1 .. 12): also k above LOOKS and n");
        x = withPlan(1, 1, 2, 0);
        T.due("k 1", x.next(0, 0, 0, 1), 0);
        T.due("k 12", x.next(0, 0, 0, 12), 0);
        T.about("Promise 14: by what lies there");
        x = withPlan(3, 3, 2, 0);
        T.due("its own", x.next(0, 1, 2, 1), 2);
        x.empty(2);
        T.due("nothing", x.next(0, 1, 2, 1), 0);
    }

    private static void runs() {
        T.about("Promise 15: in the how maniest look: the first, the last, (0: not)");
        HundredBoxes x = withPlan(12, 12, 0, 0);
        T.due("the first man", x.found(0, 0), 1);
        T.due("the last man", x.found(0, 11), 12);
        x.looks(11);
        T.due("the last man, a look less", x.found(0, 11), 0);
        T.due("the one ahead of him", x.found(0, 10), 11);
        x.empty(0);
        T.due("a man whose number is missing", x.found(0, 0), 0);
        T.about("Promise 16: how many FOUND (what 0), all looks (1), how many go home (2): all and none");
        x = withPlan(12, 12, 2, 0);
        int[] all = {12, 12, 12};
        for (int what = 0; what < 3; what++) {
            T.due("run(0, " + what + "), all own", x.run(0, what), all[what]);
        }
        for (int box = 0; box < 12; box++) {
            x.empty(box);
        }
        int[] none = {0, 144, 0};
        for (int what = 0; what < 3; what++) {
            T.due("run(0, " + what + "), nothing", x.run(0, what), none[what]);
        }
        T.about("Promise 16: a run leaves the LAYING as it is");
        x = Dues.laid(1, 2, -1, 3);
        x.plan(4, 1);
        x.run(0, 2);
        lies(x, 1, 2, -1, 3);
    }

    private static void closedAndWins() {
        T.about("Promise 17: n boxes (1 .. 12) by a number (0 .. 12): by 0, by n, by more than n");
        HundredBoxes x = new HundredBoxes();
        long ways = 1;
        for (int n = 1; n <= 12; n++) {
            ways *= n;
            T.due("closed(" + n + ", 0)", x.closed(n, 0), 0);
            T.due("closed(" + n + ", 1)", x.closed(n, 1), 1);
            T.due("closed(" + n + ", " + n + ")", x.closed(n, n), ways);
            T.due("closed(" + n + ", 12)", x.closed(n, 12), ways);
            // all but those of one ring, which are the ways of n - 1
            T.due("closed(" + n + ", " + (n - 1) + ")", x.closed(n, n - 1), ways - ways / n);
        }
        T.about("Promise 17: of n boxes, whatever the boxes are");
        x.boxes(1);
        T.due("closed(12, 6)", x.closed(12, 6), 166112640);
        T.about("Promise 18: (part 0), of how many LAYINGS (1): 1 and 7 boxes");
        x = withPlan(1, 1, 2, 0);
        T.due("wins(0, 0) of 1", x.wins(0, 0), 1);
        T.due("wins(0, 1) of 1", x.wins(0, 1), 1);
        x.boxes(7);
        T.due("wins(0, 0) of 7", x.wins(0, 0), 1);
        T.due("wins(0, 1) of 7", x.wins(0, 1), 5040);
        T.about("Promise 18: what lies there doesn't matter, and stays");
        Dues.lay(x, -1, -1, 3, 2, -1, 5, 6);
        T.due("wins(0, 0)", x.wins(0, 0), 1);
        lies(x, -1, -1, 3, 2, -1, 5, 6);
    }

    private static void mean(HundredBoxes x, String some, long above, long below) {
        x.force(Dues.text(x, "home 0;some " + some + ";bet 0;"));
        T.due("above, some " + some, x.mean(0, 0), above);
        T.due("below, some " + some, x.mean(0, 1), below);
    }

    private static void meanAndWorst() {
        T.about("Promise 19: in lowest terms: 0, whole numbers, and terms that have nothing in common");
        HundredBoxes x = withPlan(3, 3, 2, 0);
        mean(x, "0", 0, 1);
        mean(x, "9", 3, 1);
        mean(x, "1", 1, 1);
        mean(x, "rings=1 and found=3", 1, 3);
        mean(x, "rings=3", 1, 6);
        x = withPlan(3, 3, 2, 0);
        mean(x, "2-(rings=3)", 11, 6);
        x.boxes(1);
        mean(x, "1", 1, 1);
        mean(x, "0", 0, 1);
        x.boxes(7);
        mean(x, "rings=7", 1, 5040);
        T.about("Promise 20: how many (what 0), the LAYING (1): of 1, 2 and 7 boxes");
        x = withPlan(1, 12, 2, 0);
        T.due("how many of 1", x.worst(0, 0), 1);
        T.due("the laying of 1", x.worst(0, 1), 1);
        x.boxes(2);
        x.looks(1);
        T.due("how many of 2", x.worst(0, 0), 0);
        T.due("the laying of 2", x.worst(0, 1), 21);
        x.boxes(7);
        x.force(Dues.text(x, "home 0;some 1+(longest<7 or missing);bet 0;"));
        T.due("how many of 7", x.worst(0, 0), 1);
        T.due("the laying of 7", x.worst(0, 1), 2345671);
    }

    private static void drawsAndCosts() {
        T.about("Promise 21: DRAWS of the LAYING (what 0): also where n is above 7, and where nothing lies");
        for (int n = 7; n <= 12; n++) {
            HundredBoxes x = new HundredBoxes();
            x.boxes(n);
            x.looks(n);
            T.due("draws(0) of " + n, x.draws(0), n);
            T.due("draws(1) of " + n, x.draws(1), n == 7 ? 7 : -3);
            for (int box = 0; box < n; box++) {
                x.empty(box);
            }
            T.due("draws(0) of " + n + ", nothing", x.draws(0), 0);
        }
        T.about("Promise 21: PLANS are none of theirs: they need no room");
        HundredBoxes x = new HundredBoxes();
        x.boxes(2);
        x.looks(1);
        for (int i = 0; i < 8; i++) {
            x.plan(0, 0);
        }
        T.due("draws(0)", x.draws(0), 1);
        T.due("draws(1)", x.draws(1), 1);
        T.due("plans", x.count(2), 8);
        T.about("Promise 22: COSTS: 0, and 1 and 7 boxes");
        x = withPlan(1, 1, 0, 0);
        T.due("costs of 1", x.costs(0), 0);
        x.boxes(7);
        x.looks(6);
        // a ring loses in the 720 layings of one ring alone, box by box none wins
        T.due("costs of 7", x.costs(0), 7 * (5040 - 720));
        x.looks(7);
        T.due("costs of 7, all looks", x.costs(0), 0);
    }

    private static void helpAndEnough() {
        T.about("Promise 23: 12 times the lesser box, and the other one (what 0): the first two, the last two");
        HundredBoxes x = new HundredBoxes();
        x.boxes(12);
        x.swap(0, 1);
        T.due("help(0) of the first two", x.help(0), 1);
        x.boxes(12);
        x.swap(11, 10);
        T.due("help(0) of the last two", x.help(0), 131);
        T.due("the longest RING then", x.help(1), 1);
        T.due("SURE", x.help(2), 1);
        x.boxes(12);
        x.swap(0, 11);
        T.due("help(0) of the first and the last", x.help(0), 11);
        T.about("Promise 23: NONE (whatever what is)");
        x.boxes(1);
        for (int what = 0; what < 3; what++) {
            T.due("help(" + what + ") of one", x.help(what), -1);
        }
        T.about("Promise 24: (n 1 .. 12, hundredths 0 .. 100; by 0 hundredths it is 0)");
        for (int n = 1; n <= 12; n++) {
            T.due("enough(" + n + ", 0)", x.enough(n, 0), 0);
            T.due("enough(" + n + ", 100)", x.enough(n, 100), n);
        }
        T.due("enough(1, 1)", x.enough(1, 1), 1);
        T.due("enough(12, 99)", x.enough(12, 99), 12);
        // 11 of 12 are without a ring of all: 91.6
        T.due("enough(12, 91)", x.enough(12, 91), 11);
        T.due("enough(12, 92)", x.enough(12, 92), 12);
    }

    private static void order() {
        T.about("Promise 25: boxes (what 0, bits): the first one is the lowest bit, the last of 12 the highest");
        HundredBoxes x = new HundredBoxes();
        x.boxes(12);
        x.looks(1);
        for (int box = 0; box < 12; box++) {
            x.sheet(0, 0, 12);
            x.cell(0, box, 1);
            T.due("order of box " + box, x.order(0, 0), 1 << box);
            T.due("what it weighs", x.order(0, 1), 1);
        }
        x.looks(12);
        T.due("all", x.order(0, 0), 4095);
        T.about("Promise 25: what lies in the boxes doesn't matter, and stays");
        x = Dues.laid(-1, 0);
        x.looks(1);
        Dues.row(x, 0, 1, 3, 4);
        T.due("boxes", x.order(0, 0), 2);
        lies(x, -1, 0);
    }

    private static void imageAndBack() {
        T.about("Promise 26: AN IMAGE is kept: n: 1 and 12, a new one instead of the old");
        HundredBoxes x = new HundredBoxes();
        T.due("image of a new object", x.image(), 6);
        x.boxes(12);
        T.due("image of 12", x.image(), 12);
        x.boxes(1);
        T.due("back to 12", x.back(), 12);
        x.boxes(1);
        x.empty(0);
        T.due("image of 1", x.image(), 1);
        x.boxes(12);
        T.due("back to 1", x.back(), 1);
        lies(x, -1);
        T.about("Promise 27: THE IMAGE stays, what is done behind back() doesn't change it");
        x.boxes(1);
        T.due("back again", x.back(), 1);
        lies(x, -1);
        Dues.lay(x, 1, 0);
        x.image();
        x.back();
        x.swap(0, 1);
        x.empty(0);
        T.due("back once more", x.back(), 2);
        lies(x, 1, 0);
        T.about("Promise 27: THE RULE, also a TEXT that came later than the first IMAGE");
        x.force(Dues.text(x, "home 0;some 0;bet 9;"));
        x.image();
        x.force(0);
        x.back();
        T.due("the rule", x.count(5), 1);
        T.due("bet", x.bet(), 9);
    }

    private static void count() {
        T.about("Promise 28: 0 n, 1 LOOKS, 2 PLANS, 3 TEXTS, 4 bytes of THE TAPE, 5 THE RULE: the most of each");
        HundredBoxes x = new HundredBoxes();
        x.boxes(12);
        x.looks(12);
        for (int i = 0; i < 9; i++) {
            x.plan(0, 0);
            Dues.text(x, "home 0;some 0;bet 1;");
        }
        x.force(5);
        while (x.feed(1, 0) > 0) {
            T.due("tape at most", x.count(4) <= 160 ? 1 : 0, 1);
        }
        int[] most = {12, 12, 8, 6, 160, 5};
        for (int what = 0; what < 6; what++) {
            T.due("count(" + what + ")", x.count(what), most[what]);
        }
        T.about("Promise 28: the least of each");
        x = new HundredBoxes();
        x.boxes(1);
        x.looks(1);
        int[] least = {1, 1, 0, 1, 0, 0};
        for (int what = 0; what < 6; what++) {
            T.due("count(" + what + ")", x.count(what), least[what]);
        }
    }

    private static void sheet() {
        T.about("Promise 29: a row of n of a sort: of 0, 1, 39 and 40");
        HundredBoxes x = new HundredBoxes();
        for (int sort = 0; sort < 3; sort++) {
            for (int n : new int[] {0, 1, 39, 40}) {
                T.due("sheet(3, " + sort + ", " + n + ")", x.sheet(3, sort, n), 1);
                T.due("the last item of " + n, x.cell(3, n - 1, 1), n == 0 ? -12 : 1);
                T.due("one behind it", x.cell(3, n, 1), -12);
                T.due("its sort", x.plans(3, sort, 0, 0), 0);
            }
        }
        T.about("Promise 29: all 0, also where numbers stood, by each sort");
        x.boxes(3);
        x.looks(3);
        for (int sort = 0; sort < 3; sort++) {
            Dues.row(x, 0, 2, 7, 8, 9, 10);
            T.due("sheet anew", x.sheet(0, sort, 3), 1);
            T.due("its weight", x.order(0, 1), 0);
            T.due("sheet of 1", x.sheet(0, sort, 1), 1);
            T.due("sheet of 3", x.sheet(0, sort, 3), 1);
            T.due("its weight", x.order(0, 1), 0);
        }
        T.about("Promise 29: or missing (sort -1: n does not matter)");
        for (int n : new int[] {MIN, -1, 0, 1, 40, 41, MAX}) {
            x.sheet(1, 0, 2);
            T.due("sheet(1, -1, " + n + ")", x.sheet(1, -1, n), 1);
            T.due("it is missing", x.cell(1, 0, 0), -11);
            T.due("missing again", x.sheet(1, -1, n), 1);
        }
        T.about("Promise 29: the others stay");
        T.due("sheet 0", x.order(0, 1), 0);
        T.due("sheet 2 is missing", x.cell(2, 0, 0), -11);
    }

    /** What an item answers to order and to lay: itself from 0 to 99, and -1. */
    private static int seen(HundredBoxes x, int sheet) {
        int weight = x.order(sheet, 1);
        return weight >= 0 ? weight : x.lay(sheet) == 0 ? -1 : MIN;
    }

    private static void cell() {
        T.about("Promise 30: Item i becomes v (of bytes, shorts its lowest 8, 16 bits)");
        int[] values = {0, 99, -1, 255, 256, 257, 511, 65535, 65536, 65537, -255, -65535, -257, MIN, MAX, 1 << 24};
        int no = MIN;
        int[][] due = {
            {0, 99, -1, -1, 0, 1, -1, -1, 0, 1, 1, 1, -1, 0, -1, 0},
            {0, 99, -1, no, no, no, no, -1, 0, 1, no, 1, no, 0, -1, 0},
            {0, 99, -1, no, no, no, no, no, no, no, no, no, no, no, no, no},
        };
        HundredBoxes x = new HundredBoxes();
        x.boxes(1);
        for (int sort = 0; sort < 3; sort++) {
            x.sheet(0, sort, 1);
            for (int i = 0; i < values.length; i++) {
                T.due("cell(0, 0, " + values[i] + ")", x.cell(0, 0, values[i]), 1);
                T.due("sort " + sort + ", " + values[i] + " is", seen(x, 0), due[sort][i]);
            }
        }
        T.about("Promise 30: the first and the last item of 40, no other one");
        x.sheet(1, 2, 40);
        T.due("cell(1, 0, 5)", x.cell(1, 0, 5), 1);
        T.due("cell(1, 39, 6)", x.cell(1, 39, 6), 1);
        x.sheet(0, 2, 1);
        int[] items = {0, 1, 38, 39};
        int[] numbers = {5, 0, 0, 6};
        for (int i = 0; i < 4; i++) {
            x.copy(1, items[i], 0, 0, 1);
            T.due("item " + items[i], seen(x, 0), numbers[i]);
        }
    }

    /** Items of a sheet of ints, 0 .. 99, each by a copy of it alone. */
    private static void items(HundredBoxes x, int sheet, int sort, int... want) {
        x.boxes(1);
        for (int i = 0; i < want.length; i++) {
            x.sheet(3, sort, 1);
            T.due("copy of item " + i, x.copy(sheet, i, 3, 0, 1), 1);
            T.due("item " + i, seen(x, 3), want[i]);
        }
    }

    private static void copy() {
        for (int sort = 0; sort < 3; sort++) {
            T.about("Promise 31: n numbers, from item i on, to item j on: the last ones, all, none");
            HundredBoxes x = new HundredBoxes();
            Dues.row(x, 0, sort, 1, 2, 3, 4);
            Dues.row(x, 1, sort, 5, 6, 7, 8, 9);
            T.due("the last one to the last place", x.copy(0, 3, 1, 4, 1), 1);
            items(x, 1, sort, 5, 6, 7, 8, 4);
            T.due("all", x.copy(0, 0, 1, 1, 4), 4);
            items(x, 1, sort, 5, 1, 2, 3, 4);
            T.due("none from behind the last to behind the last", x.copy(0, 4, 1, 5, 0), 0);
            T.due("none from the first", x.copy(0, 0, 1, 0, 0), 0);
            items(x, 1, sort, 5, 1, 2, 3, 4);
            T.about("Promise 31: (as they were): into itself, ahead, behind, and where they stand");
            T.due("ahead", x.copy(1, 0, 1, 1, 4), 4);
            items(x, 1, sort, 5, 5, 1, 2, 3);
            T.due("behind", x.copy(1, 1, 1, 0, 4), 4);
            items(x, 1, sort, 5, 1, 2, 3, 3);
            T.due("where they stand", x.copy(1, 0, 1, 0, 5), 5);
            items(x, 1, sort, 5, 1, 2, 3, 3);
            items(x, 0, sort, 1, 2, 3, 4);
            T.about("Promise 31: none of an empty row, 40 of a full one");
            x.sheet(2, sort, 0);
            T.due("none of an empty row", x.copy(2, 0, 2, 0, 0), 0);
            T.due("one of an empty row", x.copy(2, 0, 1, 0, 1), -12);
            x.sheet(2, sort, 40);
            x.sheet(0, sort, 40);
            x.cell(2, 39, 7);
            T.due("40 of 40", x.copy(2, 0, 0, 0, 40), 40);
            x.sheet(3, sort, 1);
            x.copy(0, 39, 3, 0, 1);
            T.due("the last of 40", seen(x, 3), 7);
        }
    }

    private static void plans() {
        T.about("Promise 32: n of them (0 .. 8): how many came");
        for (int n = 0; n <= 8; n++) {
            HundredBoxes x = new HundredBoxes();
            Dues.row(x, 0, n % 3, 0, 0, 1, 1, 2, 2, 3, 3, 4, 4, 5, 5, 0, 6, 1, 11);
            T.due("plans(0, " + n % 3 + ", 0, " + n + ")", x.plans(0, n % 3, 0, n), n);
            T.due("plans then", x.count(2), n);
            int[] numbers = {0, 1, 2, 3, 4, 5, 6, 11};
            for (int plan = 0; plan < n; plan++) {
                T.due("number of " + plan, x.taken(plan, 0), numbers[plan]);
            }
        }
        T.about("Promise 32: from one on: the last two items, one alone, none");
        HundredBoxes x = new HundredBoxes();
        x.sheet(0, 2, 40);
        x.cell(0, 38, 3);
        x.cell(0, 39, 9);
        T.due("from 38", x.plans(0, 2, 38, 1), 1);
        T.due("its number", x.taken(0, 3), 9);
        T.due("from 39", x.plans(0, 2, 39, 1), -12);
        T.due("from 40", x.plans(0, 2, 40, 1), -12);
        T.due("from 40, none", x.plans(0, 2, 40, 0), 0);
        T.due("plans then", x.count(2), 1);
        x.sheet(0, 2, 0);
        T.due("of an empty row", x.plans(0, 2, 0, 1), -12);
        T.due("none of an empty row", x.plans(0, 2, 0, 0), 0);
        T.about("Promise 32: -12: what stood ahead came: a whole pair, no half one");
        for (int size = 0; size <= 8; size++) {
            x = new HundredBoxes();
            x.sheet(0, 0, size);
            T.due("four of " + size + " items", x.plans(0, 0, 0, 4), size == 8 ? 4 : -12);
            T.due("plans then", x.count(2), size / 2);
        }
    }

    private static void plansLeftOut() {
        T.about("Promise 32: how many came (others are left out): those behind them come");
        HundredBoxes x = new HundredBoxes();
        Dues.row(x, 0, 1, 6, 0, 2, 5, -1, 0, 0, 12, 3, 7, 0, -1);
        T.due("plans", x.plans(0, 1, 0, 6), 2);
        T.due("plans then", x.count(2), 2);
        T.due("the first one", x.taken(0, 2), 5);
        T.due("the second one", x.taken(1, 3), 7);
        T.about("Promise 32: the first one that comes is told, too");
        x = new HundredBoxes();
        Dues.row(x, 0, 0, 1, 4);
        T.due("one", x.plans(0, 0, 0, 1), 1);
        T.about("Promise 32: others are left out: for which there is no room");
        x = new HundredBoxes();
        for (int i = 0; i < 6; i++) {
            x.plan(0, 0);
        }
        x.sheet(0, 0, 16);
        T.due("eight into two", x.plans(0, 0, 0, 8), 2);
        T.due("plans then", x.count(2), 8);
        T.due("eight into none", x.plans(0, 0, 0, 8), 0);
        T.due("eight into none, the last one outside", x.plans(0, 0, 2, 8), -12);
        T.due("plans then", x.count(2), 8);
    }

    private static void taken() {
        T.about("Promise 33: its NUMBER: 0 and 11, for its own KIND and the highest");
        for (int kind = 0; kind < 6; kind++) {
            for (int number : new int[] {0, 11}) {
                HundredBoxes x = withPlan(6, 3, kind, number);
                T.due("kind " + kind + " for itself", x.taken(0, kind), number);
                T.due("kind " + kind + " for a PLAN", x.taken(0, 0), number);
            }
        }
        T.about("Promise 33: one under that one (also by others between)");
        T.due("SHIFTED for a RING", withPlan(6, 3, 3, 8).taken(0, 2), 8);
        T.due("SLIP for a RING", withPlan(6, 3, 4, 8).taken(0, 2), 8);
        T.due("BACK for a GUESS", withPlan(6, 3, 5, 8).taken(0, 1), 8);
        T.about("Promise 33: not the other way, nor beside");
        T.due("a PLAN for a GUESS", withPlan(6, 3, 0, 8).taken(0, 1), -13);
        T.due("a RING for a SHIFTED", withPlan(6, 3, 2, 8).taken(0, 3), -13);
        T.due("a SLIP for a SHIFTED", withPlan(6, 3, 4, 8).taken(0, 3), -13);
        T.due("a BACK for a RING", withPlan(6, 3, 5, 8).taken(0, 2), -13);
        T.due("a SHIFTED for a GUESS", withPlan(6, 3, 3, 8).taken(0, 1), -13);
    }
}
