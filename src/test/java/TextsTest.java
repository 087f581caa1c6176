/** Promises 9 to 12: the tape, texts, the rule, bet. */
public final class TextsTest {
    private static final Dues T = new Dues();

    public static void main(String[] args) {
        feed();
        faults();
        openOnes();
        fullTexts();
        force();
        values();
        homeAndSome();
        T.end();
    }

    private static void feed() {
        HundredBoxes x = new HundredBoxes();
        T.due("feed(0, 1)", x.feed(0, 1), -2);
        T.due("feed(9, 1)", x.feed(9, 1), -2);
        T.due("feed(-1, 1)", x.feed(-1, 1), -2);
        for (int i = 1; i <= 19; i++) {
            T.due("feed " + i, x.feed(8, -1), 8 * i);
        }
        T.due("feed(7)", x.feed(7, 0), 159);
        T.due("feed(2), full", x.feed(2, 0), -4);
        T.due("feed(9), bad ahead of full", x.feed(9, 0), -2);
        T.due("count(4)", x.count(4), 159);
        T.due("feed(1)", x.feed(1, 0), 160);
        T.due("feed(1), full", x.feed(1, 0), -4);
        T.due("text of -1", x.text(), -100);
        T.due("tape empty by a fault", x.count(4), 0);
        T.due("text of nothing", x.text(), -100);
        String whole = "home 1;some 2;bet 3;";
        StringBuilder long160 = new StringBuilder(whole);
        while (long160.length() < 160) {
            long160.append(' ');
        }
        T.due("text of 160 bytes", Dues.text(x, long160.toString()), 1);
        T.due("tape empty by a text", x.count(4), 0);
        T.due("lowest first", x.feed(2, 0x6f68L), 2);
        T.due("lowest first", x.feed(2, 0x656dL), 4);
        T.due("home alone", x.text(), -104);
        T.due("higher bytes left out", x.feed(1, 0x6868L), 1);
        T.due("one byte", x.text(), -100);
    }

    private static void fault(String text, int place) {
        HundredBoxes x = new HundredBoxes();
        T.due("text \"" + text + "\"", Dues.text(x, text), -100 - place);
        T.due("texts behind \"" + text + "\"", x.count(3), 1);
    }

    private static void stands(String text) {
        T.due("text \"" + text + "\"", Dues.text(new HundredBoxes(), text), 1);
    }

    private static void faults() {
        stands("home found=men;some 0;bet men-longest;");
        stands("\n home 9999\n; some(1);bet- -1;  \n");
        stands("home not found<1 and 1or 0;some 0;bet 0;");
        fault("home", 4);
        fault("home  ", 6);
        fault("  some 1;", 2);
        fault("home 1", 6);
        fault("home 1 ;", 8);
        fault("home 1 ; some 2 ; bet 3", 23);
        fault("home 1 ; some 2 ; bet 3 ", 24);
        fault("home 1;bet 2;", 7);
        fault("home 1;some 2;bet 3;;", 20);
        fault("home 1;some 2;bet 3; 4", 21);
        fault("home 1;some 2;bet 3; $", 21);
        fault("home1 2;some 2;bet 3;", 6);
        fault("homes 1;", 0);
        fault("home one;", 5);
        fault("home home;", 5);
        fault("home ;", 5);
        fault("home 12345;", 5);
        fault("home 00001;", 5);
        fault("home 99999999999999999999;", 5);
        stands("home 0001;some 0;bet 0;");
        fault("home 1 2;", 7);
        fault("home 1+;", 7);
        fault("home 1+*2;", 7);
        fault("home +1;", 5);
        fault("home 1 < 2 < 3;", 11);
        fault("home 1 = 2 < 3;", 11);
        fault("home 1 = 2 = 3;", 11);
        fault("home 1 + not 2;", 9);
        fault("home - not 2;", 7);
        fault("home 1 = not 2;", 9);
        fault("home (1;", 7);
        fault("home (1));", 8);
        fault("home ();", 6);
        fault("home 1 or or 1;", 10);
        fault("home 1 and ;", 11);
        fault("home 1\t;", 6);
        fault("home Found;", 5);
        fault("home found_;", 10);
        fault("home foun;", 5);
        fault("home foundd;", 5);
        fault("home foundz;", 5);
        fault("home afound;", 5);
        fault("home 1 bet 1;", 7);
        fault("home 1;some 1;or 1;", 14);
        fault("home notfound;", 5);
        fault("home 1 ;some 2 > 1;", 15);
        fault("home \u00e9;", 5);
    }

    private static void openOnes() {
        stands("home (((((1)))));some 0;bet 0;");
        fault("home ((((((1))))));some 0;bet 0;", 10);
        stands("home -----1;some 0;bet 0;");
        fault("home ------1;some 0;bet 0;", 10);
        stands("home not not not not not 1;some 0;bet 0;");
        fault("home not not not not not not 1;some 0;bet 0;", 25);
        stands("home not(not(-1));some 0;bet 0;");
        fault("home not(not(-(1)));some 0;bet 0;", 14);
        fault("home not(not(--1));some 0;bet 0;", 14);
        fault("home not(not((not 1)));some 0;bet 0;", 14);
        stands("home -(-(-1))+-(-(-1));some 0;bet 0;");
        stands("home not not not not not 1 and not not not not not 1;some 0;bet -----1;");
        stands("home (((((1-2-3-4)))))*(((((1)))));some 0;bet 0;");
        stands("home ((((-1<2))))<((((-1))));some 0;bet 0;");
        fault("home not 1 < (((((1)))));some 0;bet 0;", 17);
        fault("home not 1 or (((((1)))))*((((((1))))));", 31);
    }

    private static void fullTexts() {
        HundredBoxes x = new HundredBoxes();
        for (int i = 1; i < 6; i++) {
            T.due("text " + i, Dues.text(x, "home 1;some 2;bet " + i + ";"), i);
            T.due("fault between", Dues.text(x, "home 1;some 2;bet"), i == 5 ? -4 : -117);
        }
        T.due("text(), full", x.text(), -4);
        T.due("tape stays", x.count(4), 17);
        T.due("count(3)", x.count(3), 6);
        for (int i = 1; i < 6; i++) {
            T.due("force(" + i + ")", x.force(i), i - 1);
            T.due("bet by " + i, x.bet(), i);
        }
    }

    private static void force() {
        HundredBoxes x = new HundredBoxes();
        T.due("force(0)", x.force(0), 0);
        T.due("force(1)", x.force(1), -2);
        T.due("force(-1)", x.force(-1), -2);
        Dues.text(x, "home 1;some 2;bet 3;");
        T.due("a text is no rule yet", x.bet(), 5);
        T.due("force(1)", x.force(1), 0);
        T.due("bet by 1", x.bet(), 3);
        T.due("force(2)", x.force(2), -2);
        T.due("force(0)", x.force(0), 1);
        T.due("bet by 0", x.bet(), 5);
    }

    /** What a formula comes to in 1 2 0 4 -1 5 (rings of 3 and 1, one box with nothing). */
    private static void value(String formula, int want) {
        HundredBoxes x = new HundredBoxes();
        Dues.lay(x, 1, 2, 0, 4, -1, 5);
        x.force(Dues.text(x, "home 0;some 0;bet " + formula + ";"));
        T.due("bet " + formula, x.bet(), want);
    }

    private static void values() {
        value("found", 0);
        value("men", 6);
        value("looks", 0);
        value("missing", 1);
        value("rings", 2);
        value("longest", 3);
        value("1+2*3", 7);
        value("(1+2)*3", 9);
        value("9-3-2", 4);
        value("9-(3-2)", 8);
        value("-2*3", -6);
        value("--7", 7);
        value("2*-3", -6);
        value("2 - -3", 5);
        value("1<2", 1);
        value("2<1", 0);
        value("2<2", 0);
        value("-1<0", 1);
        value("2=2", 1);
        value("2=3", 0);
        value("1+1=2", 1);
        value("not 0", 1);
        value("not 7", 0);
        value("not -7", 0);
        value("not 1 < 2", 0);
        value("not 2 < 1", 1);
        value("not not 5", 1);
        value("2 and 4", 1);
        value("2 and 0", 0);
        value("0 and 4", 0);
        value("0 or 4", 1);
        value("4 or 0", 1);
        value("0 or 0", 0);
        value("1 or 0 and 0", 1);
        value("(1 or 0) and 0", 0);
        value("not 1 or 1", 1);
        value("not 0 and 0", 0);
        value("5", 5);
        value("(5)", 5);
        value("9999*9999*9999", (int) (9999L * 9999 * 9999));
        value("9999*9999*9999<0", (int) (9999L * 9999 * 9999) < 0 ? 1 : 0);
        value("men*10+longest", 63);
        value("1 or (1 and (1 < (1 + (1 * (2)))))", 1);
        value("0 or 1 and 1 < 1 + 1 * (0 or 1 and 1 < 1 + 1 * (0 or 1 and 1 < 1 + 1 * (0 or 1 and 1 < 1 + 1 * (0 or 1 and 1 < 1 + 1 * (7)))))", 1);
        HundredBoxes x = new HundredBoxes();
        x.boxes(1);
        x.empty(0);
        T.due("bet, nothing", x.bet(), 1);
    }

    private static void some(String text, int plan, int want) {
        HundredBoxes x = new HundredBoxes();
        x.plan(2, 0);
        x.plan(0, 0);
        Dues.lay(x, 1, 2, 3, 0, 4);
        x.force(Dues.text(x, text));
        T.due(text, x.run(plan, 2), want);
    }

    private static void homeAndSome() {
        // by plan 0 one finds (1 look) and four need 4, by plan 1 the men look at 1 2 3
        some("home found=1;some 0;bet 0;", 0, 5);
        some("home found-1;some 0;bet 0;", 0, 0);
        some("home -1;some 0;bet 0;", 0, 5);
        some("home 0;some found;bet 0;", 1, 3);
        some("home 0;some 5;bet 0;", 0, 5);
        some("home 0;some 6;bet 0;", 0, 5);
        some("home 0;some -1;bet 0;", 0, 0);
        some("home 0;some 4;bet 0;", 0, 4);
        some("home looks=13;some 1;bet 0;", 0, 5);
        some("home looks=12;some 1;bet 0;", 1, 5);
        some("home rings=2 and longest=4 and missing=0 and men=5;some 1;bet 0;", 0, 5);
    }
}
