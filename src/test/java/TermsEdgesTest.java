/** Each boundary case that a sentence of the document's Terms names, by the sentence. */
public final class TermsEdgesTest {
    private static final Dues T = new Dues();
    private static final int MIN = Integer.MIN_VALUE, MAX = Integer.MAX_VALUE;
    // 2^31 as a product, which wraps to the least int
    private static final String LEAST = "8192*8192*32";

    public static void main(String[] args) {
        layings();
        plans();
        firstBoxes();
        nextBoxes();
        looksOfMen();
        tokens();
        formulas();
        faultPlaces();
        openOnes();
        names();
        parts();
        rings();
        allLayings();
        draws();
        help();
        looksEnough();
        bestOrder();
        image();
        sheets();
        T.end();
    }

    private static HundredBoxes withPlan(int n, int kind, int number) {
        HundredBoxes x = new HundredBoxes();
        x.boxes(n);
        x.plan(kind, number);
        return x;
    }

    private static HundredBoxes byRule(HundredBoxes x, String rule) {
        T.due("force of " + rule, x.force(Dues.text(x, rule)), 0);
        return x;
    }

    private static void layings() {
        HundredBoxes x = new HundredBoxes();
        T.about("BOXES 0 .. n - 1 (n 1 .. 12; 6 at first)");
        T.due("n at first", x.count(0), 6);
        T.due("the last box at first", x.box(5, 0), 5);
        T.due("one behind it", x.box(6, 0), -2);
        for (int n = 1; n <= 12; n++) {
            T.due("boxes(" + n + ")", x.boxes(n), n == 1 ? 6 : n - 1);
            T.due("box 0 of " + n, x.box(0, 0), 0);
            T.due("the last box of " + n, x.box(n - 1, 0), n - 1);
            T.due("one behind those of " + n, x.box(n, 0), -2);
        }
        T.due("boxes(13)", x.boxes(13), -2);
        T.due("boxes(0)", x.boxes(0), -2);
        T.about("each hold a NUMBER (0 .. n - 1; no two alike), or nothing (-1)");
        for (int n = 1; n <= 12; n++) {
            x = new HundredBoxes();
            x.boxes(n);
            int[] row = new int[n];
            for (int i = 0; i < n; i++) {
                row[i] = n - 1 - i;
            }
            Dues.row(x, 0, 0, row);
            T.due("lay from n - 1 to 0 of " + n, x.lay(0), n);
            T.due("box 0 then", x.box(0, 0), n - 1);
            x.cell(0, 0, n);
            T.due("lay with n of " + n, x.lay(0), -2);
            x.cell(0, 0, -1);
            T.due("lay with nothing of " + n, x.lay(0), n - 1);
            T.due("box 0 then", x.box(0, 0), -1);
            x.cell(0, 0, -2);
            T.due("lay with -2 of " + n, x.lay(0), -2);
        }
        T.about("nothing is like nothing: only NUMBERS are no two alike");
        x = Dues.laid(-1, 1, -1);
        T.due("boxes with nothing", x.rings(2), 2);
        T.about("MEN 0 .. n - 1");
        for (int n : new int[] {1, 2, 12}) {
            x = withPlan(n, 2, 0);
            T.due("the last man of " + n, x.found(0, n - 1), 1);
            T.due("one behind him of " + n, x.found(0, n), -2);
            T.due("one ahead of the first of " + n, x.found(0, -1), -2);
            T.due("next of the last man of " + n, x.next(0, n - 1, 0, 0), n - 1);
            T.due("next of one behind him of " + n, x.next(0, n, 0, 0), -2);
        }
        T.about("LOOKS: 1 .. 12 (3 at first)");
        x = new HundredBoxes();
        T.due("at first", x.count(1), 3);
        T.due("looks(1)", x.looks(1), 3);
        T.due("looks(12)", x.looks(12), 1);
        T.due("looks(13)", x.looks(13), -2);
        T.due("looks(0)", x.looks(0), -2);
        T.due("as before", x.count(1), 12);
    }

    private static void plans() {
        T.about("PLANS (8 at most, numbered from 0)");
        HundredBoxes x = new HundredBoxes();
        for (int i = 0; i < 8; i++) {
            T.due("no plan " + i + " yet", x.run(i, 0), -2);
            T.due("plan " + i, x.plan(2, i), i);
            T.due("its number", x.taken(i, 2), i);
        }
        T.due("a ninth", x.plan(2, 8), -4);
        T.due("its run", x.run(8, 0), -2);
        T.due("how many", x.count(2), 8);
        T.about("KIND: 0 .. 5; a NUMBER (0 .. 11)");
        for (int kind = -1; kind <= 6; kind++) {
            for (int number : new int[] {-1, 0, 11, 12}) {
                x = new HundredBoxes();
                boolean stands = kind >= 0 && kind <= 5 && number >= 0 && number <= 11;
                T.due("plan(" + kind + ", " + number + ")", x.plan(kind, number), stands ? 0 : -2);
                T.due("plans behind it", x.count(2), stands ? 1 : 0);
                T.due("taken(0, " + kind + ")", x.taken(0, kind), stands ? number : kind == -1 || kind == 6 ? -2 : -11);
            }
        }
    }

    private static void first(String sentence, int kind, int number, int n, int man, int want) {
        T.about(sentence);
        HundredBoxes x = withPlan(n, kind, number);
        T.due("first of man " + man + " of " + n + ", number " + number, x.next(0, man, 0, 0), want);
    }

    private static void firstBoxes() {
        first("FIRST: PLAN: box 0", 0, 11, 12, 11, 0);
        first("FIRST: PLAN: box 0", 0, 0, 1, 0, 0);
        for (int kind : new int[] {1, 3, 5}) {
            String sentence = "FIRST: his own number and NUMBER, modulo n, kind " + kind;
            first(sentence, kind, 0, 12, 11, 11);
            first(sentence + ": wraps", kind, 1, 12, 11, 0);
            first(sentence + ": wraps", kind, 11, 12, 11, 10);
            first(sentence + ": to the last", kind, 1, 12, 10, 11);
            first(sentence + ": NUMBER n", kind, 5, 5, 3, 3);
            first(sentence + ": twice around", kind, 11, 5, 4, 0);
            first(sentence + ": five times around", kind, 11, 2, 1, 0);
            first(sentence + ": of one", kind, 11, 1, 0, 0);
        }
        for (int kind : new int[] {2, 4}) {
            String sentence = "FIRST: RING: his own; SLIP as a RING, kind " + kind;
            first(sentence, kind, 11, 12, 11, 11);
            first(sentence, kind, 11, 12, 0, 0);
            first(sentence, kind, 11, 1, 0, 0);
        }
        T.about("FIRST (box doesn't matter)");
        HundredBoxes x = withPlan(6, 1, 2);
        for (int box : new int[] {MIN, -1, 0, 5, 6, MAX}) {
            T.due("next(0, 5, " + box + ", 0)", x.next(0, 5, box, 0), 1);
        }
    }

    /** NEXT behind a box in which a number is seen: what another man would be told, too. */
    private static void next(String sentence, int kind, int number, int n, int box, int seen, int k, int want) {
        T.about(sentence);
        int[] row = new int[n];
        java.util.Arrays.fill(row, -1);
        row[box] = seen;
        HundredBoxes x = Dues.laid(row);
        x.plan(kind, number);
        String told = "behind box " + box + " of " + n + ", seen " + seen + ", k " + k + ", number " + number;
        T.due(told, x.next(0, 0, box, k), want);
        T.due(told + ", the last man", x.next(0, n - 1, box, k), want);
    }

    private static void nextBoxes() {
        for (int kind : new int[] {0, 1}) {
            String sentence = "NEXT: PLAN: (b and 1) modulo n; GUESS as a PLAN, kind " + kind;
            next(sentence, kind, 7, 12, 10, 3, 1, 11);
            next(sentence + ": wraps", kind, 7, 12, 11, 3, 1, 0);
            next(sentence + ": wraps", kind, 7, 12, 11, -1, 12, 0);
            next(sentence + ": of one", kind, 7, 1, 0, 0, 1, 0);
            next(sentence + ": of two", kind, 1, 2, 1, 1, 1, 0);
        }
        String ring = "NEXT: RING: v, if that isn't -1, else as a PLAN";
        next(ring, 2, 7, 12, 11, 0, 1, 0);
        next(ring, 2, 7, 12, 0, 11, 1, 11);
        next(ring, 2, 7, 12, 5, 5, 12, 5);
        next(ring, 2, 7, 12, 5, -1, 1, 6);
        next(ring + ": wraps", 2, 7, 12, 11, -1, 7, 0);
        next(ring + ": of one", 2, 7, 1, 0, -1, 1, 0);
        String shifted = "NEXT: SHIFTED: (a RING's and NUMBER) modulo n, if v isn't -1, else as a RING";
        next(shifted, 3, 0, 12, 3, 11, 1, 11);
        next(shifted, 3, 1, 12, 3, 10, 1, 11);
        next(shifted + ": wraps", 3, 1, 12, 3, 11, 1, 0);
        next(shifted + ": wraps", 3, 11, 12, 3, 11, 1, 10);
        next(shifted + ": wraps five times", 3, 11, 2, 0, 1, 1, 0);
        next(shifted + ": of one", 3, 11, 1, 0, 0, 1, 0);
        next(shifted + ": nothing", 3, 5, 12, 3, -1, 1, 4);
        next(shifted + ": nothing, wraps", 3, 5, 12, 11, -1, 1, 0);
        String slip = "NEXT: SLIP: as a RING, but if k is NUMBER, as a PLAN";
        for (int k = 1; k <= 12; k++) {
            for (int number = 0; number <= 11; number++) {
                next(slip, 4, number, 12, 11, 5, k, k == number ? 0 : 5);
            }
        }
        next(slip + ": nothing", 4, 1, 12, 4, -1, 2, 5);
        next(slip + ": nothing", 4, 1, 12, 4, -1, 1, 5);
        next(slip + ": of one", 4, 1, 1, 0, 0, 1, 0);
        String back = "NEXT: BACK: (b and n less 1) modulo n";
        next(back, 5, 7, 12, 11, 3, 1, 10);
        next(back, 5, 7, 12, 1, 3, 1, 0);
        next(back + ": wraps", 5, 7, 12, 0, 3, 1, 11);
        next(back + ": nothing, wraps", 5, 7, 12, 0, -1, 12, 11);
        next(back + ": of one", 5, 7, 1, 0, 0, 1, 0);
        T.about("NEXT behind a box (k 1 .. 12)");
        HundredBoxes x = withPlan(6, 0, 0);
        T.due("k 1", x.next(0, 0, 5, 1), 0);
        T.due("k 12", x.next(0, 0, 5, 12), 0);
        T.due("k 13", x.next(0, 0, 5, 13), -2);
        T.due("k -1", x.next(0, 0, 5, -1), -2);
        T.due("the box behind the last", x.next(0, 0, 6, 1), -2);
        T.due("the box ahead of the first", x.next(0, 0, -1, 1), -2);
    }

    private static void looksOfMen() {
        T.about("Each man opens boxes one by one, LOOKS at most");
        HundredBoxes x = Dues.laid(1, 2, 3, 4, 5, 0);
        x.plan(2, 0);
        for (int looks = 1; looks <= 5; looks++) {
            x.looks(looks);
            T.due("found by " + looks, x.found(0, 0), 0);
            T.due("looks by " + looks, x.run(0, 1), 6 * looks);
        }
        x.looks(6);
        T.due("found in the last look", x.found(0, 0), 6);
        T.about("(n at most)");
        x.looks(12);
        T.due("found", x.run(0, 0), 6);
        Dues.lay(x, -1, 0, -1);
        T.due("looks of three men", x.run(0, 1), 2 + 3 + 3);
        x.looks(3);
        T.due("looks of three men, n looks", x.run(0, 1), 2 + 3 + 3);
        x.looks(2);
        T.due("looks of three men, n less 1 looks", x.run(0, 1), 2 + 2 + 2);
        Dues.lay(x, -1);
        x.looks(12);
        T.due("looks of one man", x.run(0, 1), 1);
        T.due("found of one man", x.found(0, 0), 0);
        T.about("till one holds his own number");
        x = withPlan(12, 2, 0);
        x.looks(12);
        T.due("looks where each has its own", x.run(0, 1), 12);
        T.about("SLIP: k counts the boxes having been opened");
        x = Dues.laid(1, 2, 0, 3);
        x.plan(4, 2);
        x.plan(4, 3);
        x.looks(4);
        T.due("a slip behind two boxes", x.found(0, 0), 3);
        T.due("man 2, who opens 2, 0 and, by the slip, 1", x.found(0, 2), 3);
        T.due("a slip behind the last box", x.found(1, 0), 3);
        T.due("man 2 with it", x.found(1, 2), 3);
    }

    private static void fault(String text, int place) {
        HundredBoxes x = new HundredBoxes();
        T.due("text \"" + text + "\"", Dues.text(x, text), -100 - place);
        T.due("texts behind \"" + text + "\"", x.count(3), 1);
        T.due("tape behind \"" + text + "\"", x.count(4), 0);
    }

    private static void stands(String text) {
        HundredBoxes x = new HundredBoxes();
        T.due("text \"" + text + "\"", Dues.text(x, text), 1);
        T.due("tape behind \"" + text + "\"", x.count(4), 0);
    }

    private static String filled(String text, char with, int size) {
        StringBuilder filled = new StringBuilder(text);
        while (filled.length() < size) {
            filled.append(with);
        }
        return filled.toString();
    }

    private static void tokens() {
        String end = ";some 0;bet 0;";
        T.about("THE TAPE (160 bytes at most)");
        String sum = filled("home 1", '+', 159 - end.length()) + "1" + end;
        fault(sum, 7);
        StringBuilder ones = new StringBuilder("some 0;bet 0");
        while (ones.length() < 160 - 8) {
            ones.append("+1");
        }
        String last = "home 10" .substring(0, 160 - 1 - ones.length()) + ";" + ones;
        T.due("its size", last.length(), 160);
        fault(last, 160);
        stands(last.substring(0, 157) + "0;");
        StringBuilder words = new StringBuilder("home 1 or 1");
        while (words.length() < 160 - end.length() - 5) {
            words.append(" or 1");
        }
        stands(filled(words.toString(), ' ', 160 - end.length()) + end);
        T.about("TOKENS, each as long as can be");
        fault("homefound;", 0);
        fault("home foundmen;", 5);
        fault("home not1;some 0;bet 0;or", 23);
        fault("home notnot 1;", 5);
        fault("home 1orfound;", 6);
        fault("home 1found;", 6);
        stands("home 1or 0and 2" + end);
        T.about("NUMBERS (as many digits as stand there, 4 at most)");
        stands("home 9999" + end);
        stands("home 0000" + end);
        fault("home 10000" + end, 5);
        fault("home 00000" + end, 5);
        fault("home 99990" + end, 5);
        fault("home 1+12345" + end, 7);
        // 2^32 and one: none, even if it wraps to 1
        fault("home 4294967297" + end, 5);
        fault(filled("home ", '7', 160), 5);
        T.about("SIGNS ( ) ; + - * < =");
        stands("home(1)+2-3*4<5;some 1=1;bet 0;");
        T.about("blanks (32, 10) may stand between");
        stands("home 1\n;\nsome\n0 ;bet\n\n0  ;\n ");
        stands("\n  home 1" + end);
        stands("home(1)" + end);
        for (char wrong : new char[] {0, 1, 9, 11, 12, 13, 31, 33, 160, 255}) {
            fault("home" + wrong + "1" + end, 4);
        }
        fault("ho me 1" + end, 0);
        fault("home 1 2" + end, 7);
        T.about("TEXT: home E ; some E ; bet E ;");
        fault("some 0;home 1;bet 0;", 0);
        fault("home 1;bet 0;some 0;", 7);
        fault("home 1;some 0;some 0;", 14);
        fault("home 1" + end + "home 1" + end, 20);
        fault("home 1" + end + ";", 20);
        fault("home 1;some 0;bet 0", 19);
        fault("home;some 0;bet 0;", 4);
        fault("home 1;some;bet 0;", 11);
        fault("home 1;some 0;bet;", 17);
        fault("home 1 some 0;bet 0;", 7);
        keysAndNames();
    }

    private static void keysAndNames() {
        T.about("NAMES are found men looks missing rings longest; home, some, bet, or, and, not are KEYS");
        for (String name : new String[] {"found", "men", "looks", "missing", "rings", "longest"}) {
            stands("home " + name + ";some " + name + ";bet " + name + ";");
            fault(name + " 1;some 0;bet 0;", 0);
            fault("home 1;" + name + " 0;bet 0;", 7);
            fault("home 1;some 0;" + name + " 0;", 14);
            fault("home 1 " + name + " 1;some 0;bet 0;", 7);
        }
        for (String key : new String[] {"home", "some", "bet", "or", "and"}) {
            fault("home " + key + ";some 0;bet 0;", 5);
            fault("home 1;some " + key + ";bet 0;", 12);
            fault("home 1;some 0;bet " + key + ";", 18);
            fault("home not " + key + ";", 9);
            fault("home (" + key + ");", 6);
        }
        for (String key : new String[] {"some", "bet", "or", "and", "not"}) {
            fault(key + " 1;some 0;bet 0;", 0);
        }
        for (String key : new String[] {"home", "bet", "or", "and", "not"}) {
            fault("home 1;" + key + " 0;bet 0;", 7);
        }
        for (String key : new String[] {"home", "some", "or", "and", "not"}) {
            fault("home 1;some 0;" + key + " 0;", 14);
        }
    }

    private static void value(String formula, int want) {
        HundredBoxes x = byRule(Dues.laid(1, 2, 0, 4, -1, 5), "home 0;some 0;bet " + formula + ";");
        T.due("bet " + formula, x.bet(), want);
    }

    private static void formulas() {
        T.about("An E is an int (32 bits, wrapping)");
        value(LEAST, MIN);
        value(LEAST + "-1", MAX);
        value("-(" + LEAST + ")", MIN);
        value("-(" + LEAST + ")-1", MAX);
        value("-" + LEAST, MIN);
        value("0-" + LEAST + "-1", MAX);
        value(LEAST + "+" + LEAST, 0);
        value(LEAST + "*2", 0);
        value("8192*8192*64", 0);
        value("9999*9999*9999*9999", (int) (99980001L * 99980001L));
        T.about("< of ints at the wrap");
        value(LEAST + "<0", 1);
        value("0<" + LEAST, 0);
        value(LEAST + "-1<0", 0);
        value("0<" + LEAST + "-1", 1);
        value(LEAST + "<" + LEAST + "-1", 1);
        value(LEAST + "-1<" + LEAST, 0);
        value("7<7", 0);
        value("6<7", 1);
        value("7<6", 0);
        T.about("= of ints at the wrap");
        value(LEAST + "=-" + LEAST, 1);
        value(LEAST + "*2=0", 1);
        value(LEAST + "=0", 0);
        T.about("or, and, not, <, = 1 or 0 (what is not 0 is true)");
        for (String yes : new String[] {"1", "2", "9999", "-1", LEAST, "(" + LEAST + "-1)"}) {
            value("0 or " + yes, 1);
            value(yes + " or 0", 1);
            value(yes + " or " + yes, 1);
            value(yes + " and " + yes, 1);
            value("0 and " + yes, 0);
            value(yes + " and 0", 0);
            value("not " + yes, 0);
            value("not not " + yes, 1);
        }
        value("0 or 0", 0);
        value("0 and 0", 0);
        value("not 0", 1);
        value("not " + LEAST + "*2", 1);
        T.about("AND: NOT { and NOT }; NOT: .. perhaps < or = and a SUM");
        fault("home 1<2<3;", 8);
        fault("home 1=2=3;", 8);
        fault("home 1<2=3;", 8);
        value("(1<2)<3", 1);
        value("(3=3)=3", 0);
        fault("home 1<not 2;", 7);
        fault("home 1+not 2;", 7);
        fault("home -not 2;", 6);
        T.about("SUM: TERM { + or - TERM }; from the left");
        value("1-1-1", -1);
        value("1-(1-1)", 1);
        T.about("E: AND { or AND } { .. }: as many as there is room for");
        StringBuilder sum = new StringBuilder("1");
        while (sum.length() < 160 - "home 0;some 0;bet ;".length() - 2) {
            sum.append("+1");
        }
        value(sum.toString(), sum.length() / 2 + 1);
        value(sum.toString().replace('+', '-'), 1 - sum.length() / 2);
        value(sum.toString().replace('+', '*'), 1);
    }

    private static void faultPlaces() {
        T.about("FAULT: the place of the first byte of the first TOKEN that can't stand there");
        fault(") home 1;", 0);
        fault("home 1 +   * 2;", 11);
        fault("home 1 )   ) ;", 7);
        fault("  \n  some 1;", 5);
        fault("home longest longest;", 13);
        T.about("FAULT: (the text's size, if it ends too early)");
        fault("home", 4);
        fault("home 1", 6);
        fault("home 1;some 0;bet 0", 19);
        fault("home (", 6);
        fault("home not", 8);
        fault("home -", 6);
        fault("home 1<", 7);
        T.about("FAULT: the text's size, blanks at its end, too");
        fault("home 1 \n ", 9);
        fault(" ", 1);
        fault(filled("", ' ', 160), 160);
        fault(filled("", '\n', 160), 160);
        fault(filled("home 1;some 0;bet 0", ' ', 160), 160);
        T.about("FAULT: of a text of no byte");
        fault("", 0);
        T.about("FAULT: also of a byte that begins none");
        for (int b = 0; b < 256; b++) {
            boolean begins = b >= 'a' && b <= 'z' || b >= '0' && b <= '9' || "();+-*<= \n".indexOf(b) >= 0;
            if (!begins) {
                fault((char) b + "home 1;", 0);
                fault("home " + (char) b + ";", 5);
                fault("home 1" + (char) b + ";", 6);
                fault("home 1;some 0;bet 0;" + (char) b, 20);
            }
        }
        T.about("FAULT: a WORD that is neither KEY nor NAME");
        fault("home a;", 5);
        fault("home z;", 5);
        fault("home ring;", 5);
        fault("home ringss;", 5);
        fault("home aring;", 5);
        fault(filled("", 'z', 160), 0);
        fault(filled("home ", 'a', 160), 5);
        fault("home 1 nor 2;", 7);
        fault("home 1;some 0;bet 0; x", 21);
        T.about("FAULT: a NUMBER that is too long");
        fault("home 12345;", 5);
        fault("12345", 0);
        fault("home 1;some 0;bet 0;12345", 20);
    }

    private static void openOnes() {
        String end = ";some 0;bet 0;";
        T.about("FAULT: a ( while 5 of these are open");
        stands("home (((((1)))))" + end);
        fault("home ((((((1))))))" + end, 10);
        fault("home ((((((", 10);
        T.about("FAULT: a not while 5 of these are open");
        stands("home not not not not not 1" + end);
        fault("home not not not not not not 1" + end, 25);
        T.about("FAULT: a - ahead of a ONE while 5 of these are open");
        stands("home -----1" + end);
        fault("home ------1" + end, 10);
        stands("home 1------1" + end);
        fault("home 1-------1" + end, 12);
        T.about("FAULT: the three kinds count together");
        stands("home not(-(-1))" + end);
        fault("home not(-(-(1)))" + end, 12);
        fault("home not(-(-(-1)))" + end, 12);
        fault("home not(-(-(not 1)))" + end, 12);
        T.about("FAULT: (a ( till its ) )");
        stands("home (((((1)))))+(((((1)))))" + end);
        stands("home ((((1)+(1))))" + end);
        stands("home (((((1)+(1)))))" + end);
        fault("home (((((1+(1))))))" + end, 12);
        stands("home (((((1))))) or (((((1)))))" + end);
        T.about("FAULT: (not till what it belongs to ends)");
        fault("home not 1<(((((1)))))" + end, 15);
        stands("home not 1<((((1))))" + end);
        stands("home not 1<2 or (((((1)))))" + end);
        stands("home not 1 and not not not not not 1" + end);
        fault("home not 1+(((((1)))))" + end, 15);
        fault("home not 1*(((((1)))))" + end, 15);
        T.about("FAULT: (- till what it belongs to ends)");
        stands("home -1*(((((1)))))" + end);
        stands("home -1+-----1" + end);
        stands("home -1 - -----1" + end);
        fault("home -(((((1)))))" + end, 10);
        stands("home -----1*-----1" + end);
        T.about("FAULT: a - behind a ONE is none of these");
        stands("home (((((1-2-3-4)))))" + end);
        stands("home -----1-2-3" + end);
        T.about("FAULT: none of these is open in the next E");
        stands("home (((((1)))));some -----1;bet not not not not not 1;");
        T.about("a text that is as deep as can be is worked out");
        value("1 and(1<(1+(1*(7-(2)))))", 1);
    }

    private static void names() {
        T.about("There are 6 TEXTS at most, TEXT 0 with them");
        HundredBoxes x = new HundredBoxes();
        T.due("texts at first", x.count(3), 1);
        for (int text = 1; text <= 5; text++) {
            T.due("text " + text, Dues.text(x, "home 0;some 0;bet " + text + ";"), text);
        }
        T.due("a seventh", Dues.text(x, "home 0;some 0;bet 6;"), -4);
        T.due("texts then", x.count(3), 6);
        T.due("force(6)", x.force(6), -2);
        T.due("force(5)", x.force(5), 0);
        T.due("bet by the last", x.bet(), 5);
        T.about("TEXT 0, at first THE RULE, is: home found = men ; some 0 ; bet men - longest ;");
        x = new HundredBoxes();
        x.plan(2, 0);
        T.due("the rule at first", x.count(5), 0);
        T.due("home", x.run(0, 2), 6);
        T.due("bet", x.bet(), 5);
        x.empty(0);
        T.due("some", x.run(0, 2), 0);
        T.about("men: n");
        x = byRule(new HundredBoxes(), "home 0;some 0;bet men;");
        for (int n = 1; n <= 12; n++) {
            x.boxes(n);
            T.due("men of " + n, x.bet(), n);
        }
        T.about("missing: boxes with nothing");
        x = byRule(new HundredBoxes(), "home 0;some 0;bet missing;");
        for (int box = 0; box < 6; box++) {
            T.due("missing", x.bet(), box);
            x.empty(box);
        }
        T.due("all missing", x.bet(), 6);
        T.about("rings: how many RINGS");
        x = byRule(new HundredBoxes(), "home 0;some 0;bet rings;");
        x.boxes(12);
        T.due("all own", x.bet(), 12);
        Dues.lay(x, 1, 2, 3, 4, 5, 6, 7, 8, 9, 10, 11, 0);
        T.due("one ring of all", x.bet(), 1);
        x.empty(0);
        T.due("none", x.bet(), 0);
        T.about("longest: the longest RING (0: none)");
        x = byRule(new HundredBoxes(), "home 0;some 0;bet longest;");
        T.due("all own", x.bet(), 1);
        Dues.lay(x, 1, 2, 3, 4, 5, 6, 7, 8, 9, 10, 11, 0);
        T.due("one ring of all", x.bet(), 12);
        x.empty(7);
        T.due("none", x.bet(), 0);
    }

    private static void some(String formula, int want) {
        HundredBoxes x = byRule(withPlan(5, 2, 0), "home 0;some " + formula + ";bet 0;");
        T.due("some " + formula, x.run(0, 2), want);
    }

    private static void home(String formula, int want) {
        HundredBoxes x = byRule(withPlan(5, 2, 0), "home " + formula + ";some 2;bet 0;");
        T.due("home " + formula, x.run(0, 2), want);
    }

    private static void parts() {
        T.about("home: whether all go home (n, if home isn't 0)");
        home("0", 2);
        home("1", 5);
        home("-1", 5);
        home("9999", 5);
        home(LEAST, 5);
        home(LEAST + "*2", 2);
        home("found=5 and looks=5", 5);
        home("found=4 or looks=4", 2);
        T.about("some: how many go home, if not all do (0 .. n, else the bound)");
        some("0", 0);
        some("-1", 0);
        some("-9999", 0);
        some(LEAST, 0);
        some("1", 1);
        some("4", 4);
        some("5", 5);
        some("6", 5);
        some("9999", 5);
        some(LEAST + "-1", 5);
        some(LEAST + "*2", 0);
        some("found-1", 4);
        some("looks+1", 5);
        T.about("bet: what one would bet (found, looks 0)");
        HundredBoxes x = byRule(withPlan(5, 2, 0), "home 0;some 0;bet 100*found+looks;");
        T.due("bet", x.bet(), 0);
        T.due("a run", x.run(0, 0), 5);
        T.due("bet behind a run", x.bet(), 0);
        T.due("wins", x.wins(0, 0), 0);
        T.due("bet behind all layings", x.bet(), 0);
        T.about("how many FOUND theirs, and all looks that they took together");
        x = withPlan(12, 0, 0);
        x.looks(12);
        byRule(x, "home found=12 and looks=78;some 0;bet 0;");
        T.due("all find, the last in the last look", x.run(0, 2), 12);
    }

    private static void rings() {
        T.about("RINGS: from a box to the box of the number in it, till one comes back to the first box");
        HundredBoxes x = Dues.laid(11, 0, 1, 2, 3, 4, 5, 6, 7, 8, 9, 10);
        for (int box = 0; box < 12; box++) {
            T.due("ring of box " + box, x.box(box, 1), 12);
        }
        T.due("how many", x.rings(0), 1);
        T.about("a way that ends in nothing is none");
        x.empty(0);
        for (int box = 0; box < 12; box++) {
            T.due("way of box " + box, x.box(box, 1), 0);
        }
        T.due("how many", x.rings(0), 0);
        x = Dues.laid(0, 2, -1, 1);
        T.due("beside a ring", x.rings(0), 1);
        T.due("of the box with nothing", x.box(2, 1), 0);
        T.due("of one that leads there", x.box(3, 1), 0);
        T.due("a ring of one", x.box(0, 1), 1);
        T.about("the longest RING (0: none)");
        T.due("of a ring of one", x.rings(1), 1);
        x.empty(0);
        T.due("of none", x.rings(1), 0);
        T.about("or not (0)");
        x.plan(2, 0);
        x.looks(12);
        for (int man = 0; man < 4; man++) {
            T.due("man " + man, x.found(0, man), man == 1 || man == 2 ? 3 : 0);
        }
    }

    private static void allLayings() {
        T.about("ALL LAYINGS (n 7 at most in what asks all of them)");
        HundredBoxes x = withPlan(7, 2, 0);
        T.due("layings of 7", x.wins(0, 1), 5040);
        T.due("worst of 7", x.worst(0, 1), 1235674);
        x.boxes(8);
        T.due("layings of 8", x.wins(0, 1), Dues.NO);
        T.due("worst of 8", x.worst(0, 1), -3);
        T.about("ALL LAYINGS are all n! ways");
        long ways = 1;
        for (int n = 1; n <= 7; n++) {
            ways *= n;
            x.boxes(n);
            x.looks(n);
            T.due("wins of " + n + ", all looks", x.wins(0, 0), ways);
            T.due("layings of " + n, x.wins(0, 1), ways);
        }
        T.about("ALL LAYINGS: as digits from the least on: the first and the last");
        x = withPlan(2, 2, 0);
        x.looks(1);
        T.due("the last one is the worst", x.worst(0, 1), 21);
        x = byRule(withPlan(3, 1, 1), "home 0;some found;bet 0;");
        x.looks(1);
        // man m opens box m + 1 alone: none finds his in 123, 132, 213, 321
        T.due("the first one is the worst", x.worst(0, 1), 123);
        T.about("WINS: in how many n go home (none, all)");
        x = withPlan(7, 0, 0);
        x.looks(6);
        T.due("none", x.wins(0, 0), 0);
        x.looks(7);
        T.due("all", x.wins(0, 0), 5040);
        T.about("MEAN (a fraction), in lowest terms, of 0 and of n");
        T.due("above of n", x.mean(0, 0), 7);
        T.due("below of n", x.mean(0, 1), 1);
        x.looks(6);
        T.due("above of 0", x.mean(0, 0), 0);
        T.due("below of 0", x.mean(0, 1), 1);
        T.about("CLOSED: n 12 at most; exactly");
        T.due("closed(12, 12)", x.closed(12, 12), 479001600);
        T.due("closed(12, 11)", x.closed(12, 11), 479001600 - 39916800);
        T.due("closed(12, 1)", x.closed(12, 1), 1);
        T.due("closed(13, 12)", x.closed(13, 12), Dues.NO);
        T.about("WORST: the first in which the fewest go home, of like ones");
        x = byRule(withPlan(7, 2, 0), "home 0;some 4;bet 0;");
        T.due("the LAYING", x.worst(0, 1), 1234567);
        T.due("how many", x.worst(0, 0), 4);
    }

    private static void draws() {
        T.about("DRAWS: SHIFTED PLANS with NUMBERS 0 .. n - 1");
        for (int n = 1; n <= 12; n++) {
            HundredBoxes x = new HundredBoxes();
            x.boxes(n);
            x.looks(12);
            T.due("draws(0) of " + n + ", all looks", x.draws(0), n);
            x.looks(1);
            T.due("draws(0) of " + n + ", one look", x.draws(0), 1);
            byRule(x, "home 0;some 0;bet 0;");
            T.due("draws(0) of " + n + ", none", x.draws(0), 0);
        }
        T.about("DRAWS: by how many n go home: less than n, by none");
        HundredBoxes x = byRule(new HundredBoxes(), "home 0;some men-1;bet 0;");
        T.due("n less 1 go home", x.draws(0), 0);
        T.about("DRAWS: the least such number over ALL LAYINGS");
        for (int n = 1; n <= 7; n++) {
            x = new HundredBoxes();
            x.boxes(n);
            x.looks(12);
            T.due("draws(1) of " + n + ", all looks", x.draws(1), n);
        }
        x.boxes(1);
        T.due("draws(1) of one", x.draws(1), 1);
        x.boxes(2);
        x.looks(1);
        // 12 is met by the draw 0, 21 by the draw 1
        T.due("draws(1) of two", x.draws(1), 1);
    }

    private static void helps(HundredBoxes x, int pair, int longest, int sure) {
        T.due("help(0)", x.help(0), pair);
        T.due("help(1)", x.help(1), longest);
        T.due("help(2)", x.help(2), sure);
    }

    private static void help() {
        T.about("HELP: the last two boxes of 12");
        helps(Dues.laid(0, 1, 2, 3, 4, 5, 6, 7, 8, 9, 11, 10), 12 * 10 + 11, 1, 1);
        T.about("HELP: the first two boxes of two");
        helps(Dues.laid(1, 0), 1, 1, 1);
        T.about("HELP: of like ones the first so");
        helps(Dues.laid(1, 2, 3, 0), 2, 2, 1);
        helps(Dues.laid(1, 2, 3, 4, 5, 0), 3, 3, 1);
        helps(Dues.laid(0, 2, 3, 1), 12 + 2, 2, 1);
        T.about("HELP: NONE, if by none it would be less than it is");
        helps(Dues.laid(0), -1, -1, -1);
        helps(Dues.laid(-1), -1, -1, -1);
        helps(Dues.laid(0, 1, 2), -1, -1, -1);
        helps(Dues.laid(1, 0, 3, 2), -1, -1, -1);
        helps(Dues.laid(-1, -1, -1, -1), -1, -1, -1);
        helps(Dues.laid(1, -1, 0), -1, -1, -1);
        T.about("HELP: what lies in them changed: also nothing with a number, so that no RING is left");
        helps(Dues.laid(-1, 1), 1, 0, 0);
        T.about("SURE: whether no RING is longer than LOOKS: longer, as long, shorter");
        HundredBoxes x = Dues.laid(1, 2, 3, 4, 5, 0);
        x.looks(2);
        T.due("longer", x.help(2), 0);
        x.looks(3);
        T.due("as long", x.help(2), 1);
        x.looks(4);
        T.due("shorter", x.help(2), 1);
        x.looks(12);
        T.due("far shorter", x.help(2), 1);
        T.about("SURE: and nothing is missing");
        x = Dues.laid(1, 2, 3, 0, -1);
        x.looks(12);
        T.due("with nothing", x.help(2), 0);
        T.due("the longest then", x.help(1), 0);
        T.about("HELP changes nothing itself");
        T.due("box(0, 0)", x.box(0, 0), 1);
        T.due("box(4, 0)", x.box(4, 0), -1);
    }

    private static void looksEnough() {
        HundredBoxes x = new HundredBoxes();
        T.about("LOOKS ENOUGH: CLOSED by it is no less than so many of a hundred: just so many");
        T.due("enough(4, 75), 18 of 24", x.enough(4, 75), 3);
        T.due("enough(4, 76)", x.enough(4, 76), 4);
        T.due("enough(2, 50), 1 of 2", x.enough(2, 50), 1);
        T.due("enough(2, 51)", x.enough(2, 51), 2);
        T.due("enough(5, 80), 96 of 120", x.enough(5, 80), 4);
        T.due("enough(5, 81)", x.enough(5, 81), 5);
        T.due("enough(5, 55), 66 of 120", x.enough(5, 55), 3);
        T.due("enough(5, 56)", x.enough(5, 56), 4);
        T.due("enough(10, 90), 9 of 10", x.enough(10, 90), 9);
        T.due("enough(10, 91)", x.enough(10, 91), 10);
        T.due("enough(4, 4), 1 of 24 is above", x.enough(4, 4), 1);
        T.due("enough(4, 5)", x.enough(4, 5), 2);
        for (int n = 1; n <= 12; n++) {
            T.about("LOOKS ENOUGH: by 0 hundredths it is 0");
            T.due("enough(" + n + ", 0)", x.enough(n, 0), 0);
            T.about("LOOKS ENOUGH: by one, and by all hundredths");
            T.due("enough(" + n + ", 1)", x.enough(n, 1), n < 5 ? 1 : n < 9 ? 2 : 3);
            T.due("enough(" + n + ", 100)", x.enough(n, 100), n);
        }
    }

    private static void bestOrder() {
        T.about("A BEST ORDER by WEIGHTS (0 .. 99 each)");
        HundredBoxes x = new HundredBoxes();
        x.boxes(2);
        x.looks(1);
        Dues.row(x, 0, 0, 0, 99);
        T.due("boxes", x.order(0, 0), 2);
        T.due("what they weigh", x.order(0, 1), 99);
        T.about("A BEST ORDER: as many boxes as one may open: LOOKS, n at most");
        x.boxes(12);
        Dues.row(x, 0, 0, 99, 99, 99, 99, 99, 99, 99, 99, 99, 99, 99, 99);
        for (int looks = 1; looks <= 12; looks++) {
            x.looks(looks);
            T.due("boxes by " + looks, x.order(0, 0), (1 << looks) - 1);
            T.due("weight by " + looks, x.order(0, 1), 99 * looks);
        }
        x.boxes(1);
        Dues.row(x, 0, 0, 0);
        T.due("of one box", x.order(0, 0), 1);
        T.due("weight of one box", x.order(0, 1), 0);
        T.about("A BEST ORDER: (of like ones the least)");
        x.boxes(4);
        x.looks(2);
        Dues.row(x, 0, 0, 5, 7, 5, 5);
        T.due("boxes", x.order(0, 0), 3);
        Dues.row(x, 0, 0, 4, 5, 5, 5);
        T.due("boxes", x.order(0, 0), 6);
    }

    private static void image() {
        T.about("AN IMAGE keeps the LAYING, n, LOOKS, THE RULE: no more");
        HundredBoxes x = Dues.laid(2, 0, -1);
        x.looks(5);
        T.due("image", x.image(), 3);
        x.boxes(12);
        x.looks(1);
        x.plan(3, 4);
        byRule(x, "home 0;some 0;bet 8;");
        x.feed(2, 0);
        Dues.row(x, 0, 0, 1, 2, 3);
        T.due("back", x.back(), 3);
        int[] numbers = {2, 0, -1};
        for (int box = 0; box < 3; box++) {
            T.due("box " + box, x.box(box, 0), numbers[box]);
        }
        T.due("a box behind", x.box(3, 0), -2);
        int[] counts = {3, 5, 1, 2, 2, 0};
        for (int what = 0; what < 6; what++) {
            T.due("count(" + what + ")", x.count(what), counts[what]);
        }
        T.due("a sheet stays", x.order(0, 1), 6);
    }

    private static void sheets() {
        T.about("SHEETS 0 .. 3 are missing at first");
        HundredBoxes x = new HundredBoxes();
        for (int sheet = 0; sheet < 4; sheet++) {
            T.due("cell(" + sheet + ", 0, 0)", x.cell(sheet, 0, 0), -11);
        }
        T.due("cell(4, 0, 0)", x.cell(4, 0, 0), -2);
        T.due("cell(-1, 0, 0)", x.cell(-1, 0, 0), -2);
        T.about("SHEETS: of sort 0 bytes, 1 shorts, 2 ints");
        for (int sort = 0; sort < 3; sort++) {
            x.sheet(0, sort, 1);
            for (int asked = 0; asked < 3; asked++) {
                T.due("taken for " + asked, x.plans(0, asked, 0, 0), asked == sort ? 0 : -13);
            }
        }
    }
}
