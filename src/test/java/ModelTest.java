import java.util.Random;

/** Random runs of calls, each answer compared with the model's. */
public final class ModelTest {
    private static final Dues T = new Dues();
    private static final String[] PIECES = {
        "home ", "some ", "bet ", ";", ";", " or ", " and ", "not ", "found", "men", "looks", "missing", "rings",
        "longest", "(", ")", "+", "-", "*", "<", "=", "0", "7", "9999", "10000", "\n", "x", "%", "\u00ff",
    };

    public static void main(String[] args) {
        for (int seed = 0; seed < 1500; seed++) {
            run(seed, 120, seed % 15 == 0 ? 7 : 5);
        }
        for (int seed = 0; seed < 20000; seed++) {
            texts(seed);
        }
        everyClosed();
        T.end();
    }

    private static int pick(Random r, int low, int high) {
        // now and then a step outside, or far outside
        int dice = r.nextInt(60);
        if (dice == 0) return low - 1;
        if (dice == 1) return high + 1;
        if (dice == 2) return r.nextInt();
        return low + r.nextInt(high - low + 1);
    }

    private static String formula(Random r, int depth) {
        if (depth == 0 || r.nextInt(4) == 0) {
            String[] leaves = {"found", "men", "looks", "missing", "rings", "longest", "0", "1", "2", "13"};
            return leaves[r.nextInt(leaves.length)];
        }
        String[] signs = {"+", "-", "*", "<", "=", " or ", " and "};
        switch (r.nextInt(8)) {
            case 0: return "-" + formula(r, depth - 1);
            case 1: return "not " + formula(r, depth - 1);
            case 2: return "(" + formula(r, depth - 1) + ")";
            default: return formula(r, depth - 1) + signs[r.nextInt(signs.length)] + formula(r, depth - 1);
        }
    }

    private static String text(Random r) {
        StringBuilder text = new StringBuilder();
        text.append("home ").append(formula(r, 3)).append(';');
        text.append("some ").append(formula(r, 2)).append(" ; ");
        text.append("bet ").append(formula(r, 3)).append(";");
        if (r.nextInt(3) == 0) {
            int at = r.nextInt(text.length());
            String piece = PIECES[r.nextInt(PIECES.length)];
            text.replace(at, Math.min(text.length(), at + r.nextInt(3)), piece);
        }
        text.setLength(Math.min(text.length(), 160));
        return text.toString();
    }

    private static void feed(HundredBoxes x, Model m, String text, String told) {
        for (int from = 0; from < text.length(); from += 8) {
            int n = Math.min(8, text.length() - from);
            long bytes = 0;
            for (int i = n - 1; i >= 0; i--) {
                bytes = bytes << 8 | text.charAt(from + i);
            }
            T.due(told + " feed", x.feed(n, bytes), m.feed(n, bytes));
        }
    }

    /** Texts alone, faulty and not, with what they come to. */
    private static void texts(int seed) {
        Random r = new Random(seed);
        HundredBoxes x = new HundredBoxes();
        Model m = new Model();
        String text = text(r);
        if (seed % 4 == 0) {
            StringBuilder wild = new StringBuilder("home ");
            for (int i = 0; i < 12; i++) {
                wild.append(PIECES[r.nextInt(PIECES.length)]);
            }
            text = wild.toString();
        }
        feed(x, m, text, "seed " + seed);
        T.due("seed " + seed + " text " + text, x.text(), m.text());
        T.due("force", x.force(1), m.force(1));
        T.due("bet " + text, x.bet(), m.bet());
    }

    private static void everyClosed() {
        HundredBoxes x = new HundredBoxes();
        Model m = new Model();
        for (int n = 0; n <= 13; n++) {
            for (int most = -1; most <= 13; most++) {
                T.due("closed(" + n + ", " + most + ")", x.closed(n, most), m.closed(n, most));
            }
            for (int hundredths = -1; hundredths <= 101; hundredths++) {
                T.due("enough(" + n + ", " + hundredths + ")", x.enough(n, hundredths), m.enough(n, hundredths));
            }
        }
    }

    private static void run(int seed, int calls, int mostBoxes) {
        Random r = new Random(seed);
        HundredBoxes x = new HundredBoxes();
        Model m = new Model();
        for (int i = 0; i < calls; i++) {
            String told = "seed " + seed + " call " + i;
            switch (r.nextInt(4)) {
                case 0: boxesCall(x, m, r, told, mostBoxes); break;
                case 1: plansCall(x, m, r, told); break;
                case 2: sheetsCall(x, m, r, told); break;
                default: asks(x, m, r, told); break;
            }
        }
    }

    private static void boxesCall(HundredBoxes x, Model m, Random r, String told, int mostBoxes) {
        int last = m.n() - 1;
        int a = pick(r, 0, last);
        int b = pick(r, 0, last);
        switch (r.nextInt(9)) {
            case 0:
                // many boxes now and then only, since the model is slow
                int n = r.nextInt(3) == 0 ? pick(r, 8, 12) : pick(r, 1, mostBoxes);
                T.due(told + " boxes " + n, x.boxes(n), m.boxes(n));
                break;
            case 1:
                int looks = r.nextInt(3) == 0 ? pick(r, 1, 12) : pick(r, 1, 5);
                T.due(told + " looks " + looks, x.looks(looks), m.looks(looks));
                break;
            case 2: T.due(told + " empty", x.empty(a), m.empty(a)); break;
            case 3: T.due(told + " image", x.image(), m.image()); break;
            case 4: T.due(told + " back", x.back(), m.back()); break;
            default: T.due(told + " swap", x.swap(a, b), m.swap(a, b)); break;
        }
    }

    private static void plansCall(HundredBoxes x, Model m, Random r, String told) {
        int a = pick(r, 0, 5);
        int b = pick(r, 0, 11);
        switch (r.nextInt(5)) {
            case 0: T.due(told + " plan", x.plan(a, b), m.plan(a, b)); break;
            case 1:
                String text = text(r);
                feed(x, m, text, told);
                T.due(told + " text " + text, x.text(), m.text());
                break;
            case 2: T.due(told + " force", x.force(a), m.force(a)); break;
            case 3:
                int n = pick(r, 1, 8);
                long bytes = r.nextLong();
                if (r.nextInt(4) == 0) T.due(told + " feed", x.feed(n, bytes), m.feed(n, bytes));
                break;
            default:
                int plan = pick(r, 0, 7);
                T.due(told + " taken", x.taken(plan, a), m.taken(plan, a));
                break;
        }
    }

    private static void sheetsCall(HundredBoxes x, Model m, Random r, String told) {
        int s = pick(r, 0, 3);
        int o = pick(r, 0, 3);
        int size = r.nextInt(3) == 0 ? pick(r, 0, 40) : m.n();
        int sort = pick(r, -1, 2);
        int last = Math.max(0, Math.min(40, size));
        int i = pick(r, 0, last);
        int j = pick(r, 0, last);
        int n = pick(r, 0, 8);
        switch (r.nextInt(7)) {
            case 0: T.due(told + " sheet", x.sheet(s, sort, size), m.sheet(s, sort, size)); break;
            case 1: T.due(told + " copy", x.copy(s, i, o, j, n), m.copy(s, i, o, j, n)); break;
            case 2: T.due(told + " plans", x.plans(s, sort, i, n), m.plans(s, sort, i, n)); break;
            case 3: T.due(told + " lay", x.lay(s), m.lay(s)); break;
            case 4:
                int what = pick(r, 0, 1);
                T.due(told + " order", x.order(s, what), m.order(s, what));
                break;
            case 5: laying(x, m, r, told, s); break;
            default:
                int v = pick(r, -1, r.nextInt(2) == 0 ? 11 : 110);
                T.due(told + " cell", x.cell(s, i, v), m.cell(s, i, v));
                break;
        }
    }

    /** A sheet that mostly is a laying. */
    private static void laying(HundredBoxes x, Model m, Random r, String told, int s) {
        int n = m.n();
        int sort = r.nextInt(3);
        T.due(told + " sheet", x.sheet(s, sort, n), m.sheet(s, sort, n));
        java.util.List<Integer> numbers = Model.own(n);
        java.util.Collections.shuffle(numbers, r);
        for (int i = 0; i < n; i++) {
            int v = r.nextInt(8) == 0 ? -1 : r.nextInt(30) == 0 ? r.nextInt(n + 1) : numbers.get(i);
            T.due(told + " cell", x.cell(s, i, v), m.cell(s, i, v));
        }
        T.due(told + " lay", x.lay(s), m.lay(s));
    }

    private static void asks(HundredBoxes x, Model m, Random r, String told) {
        int plan = pick(r, 0, Math.max(0, m.plans.size() - 1));
        int box = pick(r, 0, m.n() - 1);
        int man = pick(r, 0, m.n() - 1);
        int what = pick(r, 0, 2);
        int part = pick(r, 0, 1);
        int k = pick(r, 0, 12);
        switch (r.nextInt(16)) {
            case 0: T.due(told + " box", x.box(box, part), m.box(box, part)); break;
            case 1: T.due(told + " rings", x.rings(what), m.rings(what)); break;
            case 2: T.due(told + " bet", x.bet(), m.bet()); break;
            case 3: T.due(told + " next", x.next(plan, man, box, k), m.next(plan, man, box, k)); break;
            case 4: T.due(told + " found", x.found(plan, man), m.found(plan, man)); break;
            case 5: T.due(told + " run", x.run(plan, what), m.run(plan, what)); break;
            case 6: T.due(told + " wins", x.wins(plan, part), m.wins(plan, part)); break;
            case 7: T.due(told + " mean", x.mean(plan, part), m.mean(plan, part)); break;
            case 8: T.due(told + " worst", x.worst(plan, part), m.worst(plan, part)); break;
            case 9: T.due(told + " draws", x.draws(part), m.draws(part)); break;
            case 10: T.due(told + " costs", x.costs(plan), m.costs(plan)); break;
            case 11: T.due(told + " help", x.help(what), m.help(what)); break;
            case 12: T.due(told + " run", x.run(plan, 2), m.run(plan, 2)); break;
            case 13: T.due(told + " draws", x.draws(0), m.draws(0)); break;
            default: int c = pick(r, 0, 5); T.due(told + " count", x.count(c), m.count(c)); break;
        }
    }
}
