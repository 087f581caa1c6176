import java.util.ArrayList;
import java.util.Arrays;
import java.util.List;
import java.util.function.ToIntFunction;

/** The same document told a second time, as plainly as the Java library allows; no test itself. */
final class Model {
    /** What a text may ask of a run. */
    record Facts(int found, int men, int looks, int missing, int rings, int longest) { }

    record Rule(ToIntFunction<Facts> home, ToIntFunction<Facts> some, ToIntFunction<Facts> bet) { }

    record Image(List<Integer> boxes, int looks, int rule) { }

    record KindAndNumber(int kind, int number) { }

    static final class Row {
        final int sort;
        final int[] cells;

        Row(int sort, int n) {
            this.sort = sort;
            this.cells = new int[n];
        }
    }

    static final class Fault extends RuntimeException {
        final int place;

        Fault(int place) {
            this.place = place;
        }
    }

    List<Integer> boxes = own(6);
    int looks = 3;
    int rule = 0;
    Image image = null;
    String tape = "";
    final List<Rule> rules = new ArrayList<>();
    final List<KindAndNumber> plans = new ArrayList<>();
    final Row[] rows = new Row[4];

    Model() {
        rules.add(new Rule(f -> f.found() == f.men() ? 1 : 0, f -> 0, f -> f.men() - f.longest()));
    }

    static List<Integer> own(int n) {
        List<Integer> all = new ArrayList<>();
        for (int i = 0; i < n; i++) {
            all.add(i);
        }
        return all;
    }

    static boolean in(int v, int low, int high) {
        return low <= v && v <= high;
    }

    int n() {
        return boxes.size();
    }

    int boxes(int n) {
        if (!in(n, 1, 12)) return -2;
        int was = n();
        boxes = own(n);
        return was;
    }

    int looks(int n) {
        if (!in(n, 1, 12)) return -2;
        int was = looks;
        looks = n;
        return was;
    }

    int lay(int sheet) {
        if (!in(sheet, 0, 3)) return -2;
        if (rows[sheet] == null) return -11;
        if (rows[sheet].cells.length != n()) return -2;
        List<Integer> laid = new ArrayList<>();
        for (int v : rows[sheet].cells) {
            if (!in(v, -1, n() - 1) || v >= 0 && laid.contains(v)) return -2;
            laid.add(v);
        }
        boxes = laid;
        return (int) laid.stream().filter(v -> v >= 0).count();
    }

    int swap(int a, int b) {
        if (!in(a, 0, n() - 1) || !in(b, 0, n() - 1) || a == b) return -2;
        boxes = swapped(boxes, a, b);
        return 1;
    }

    static List<Integer> swapped(List<Integer> boxes, int a, int b) {
        List<Integer> other = new ArrayList<>(boxes);
        other.set(a, boxes.get(b));
        other.set(b, boxes.get(a));
        return other;
    }

    int empty(int box) {
        if (!in(box, 0, n() - 1)) return -2;
        int was = boxes.get(box);
        if (was == -1) return -3;
        boxes = new ArrayList<>(boxes);
        boxes.set(box, -1);
        return was;
    }

    static List<Integer> ringOf(List<Integer> boxes, int box) {
        List<Integer> way = new ArrayList<>();
        int at = box;
        do {
            way.add(at);
            at = boxes.get(at);
        } while (at != -1 && at != box);
        return at == box ? way : List.of();
    }

    static int ringCount(List<Integer> boxes) {
        int rings = 0;
        for (int i = 0; i < boxes.size(); i++) {
            List<Integer> ring = ringOf(boxes, i);
            if (!ring.isEmpty() && ring.stream().mapToInt(v -> v).min().getAsInt() == i) rings++;
        }
        return rings;
    }

    static int longest(List<Integer> boxes) {
        int longest = 0;
        for (int i = 0; i < boxes.size(); i++) {
            longest = Math.max(longest, ringOf(boxes, i).size());
        }
        return longest;
    }

    static int missing(List<Integer> boxes) {
        return (int) boxes.stream().filter(v -> v == -1).count();
    }

    int box(int box, int what) {
        if (!in(box, 0, n() - 1) || !in(what, 0, 1)) return -2;
        return what == 0 ? boxes.get(box) : ringOf(boxes, box).size();
    }

    int rings(int what) {
        return switch (what) {
            case 0 -> ringCount(boxes);
            case 1 -> longest(boxes);
            case 2 -> missing(boxes);
            default -> -2;
        };
    }

    int feed(int n, long bytes) {
        if (!in(n, 1, 8)) return -2;
        if (tape.length() + n > 160) return -4;
        for (int i = 0; i < n; i++) {
            tape += (char) (bytes >>> 8 * i & 0xff);
        }
        return tape.length();
    }

    // a token reader that cuts the whole tape first, faulty tokens as "?"
    private List<String> tokens;
    private List<Integer> places;
    private int now;
    private int open;

    private void cut() {
        tokens = new ArrayList<>();
        places = new ArrayList<>();
        java.util.regex.Matcher m = java.util.regex.Pattern
            .compile("[a-z]+|[0-9]+|[();+\\-*<=]|[ \\n]+|[\\x00-\\xff]", java.util.regex.Pattern.DOTALL).matcher(tape);
        List<String> words = List.of("found", "men", "looks", "missing", "rings", "longest",
            "home", "some", "bet", "or", "and", "not");
        while (m.find()) {
            String t = m.group();
            if (t.matches("[ \\n]+")) continue;
            boolean stands = t.matches("[0-9]{1,4}|[();+\\-*<=]") || words.contains(t);
            tokens.add(stands ? t : "?");
            places.add(m.start());
        }
        tokens.add("");
        places.add(tape.length());
        now = 0;
        open = 0;
    }

    private Fault fault() {
        return new Fault(places.get(now));
    }

    private boolean sees(String t) {
        return tokens.get(now).equals(t);
    }

    private void must(String t) {
        if (!sees(t)) throw fault();
        now++;
    }

    private boolean may(String t) {
        if (!sees(t)) return false;
        now++;
        return true;
    }

    private void openOne() {
        if (open == 5) throw fault();
        open++;
        now++;
    }

    private ToIntFunction<Facts> e() {
        ToIntFunction<Facts> left = and();
        while (may("or")) {
            ToIntFunction<Facts> a = left, b = and();
            left = f -> a.applyAsInt(f) != 0 || b.applyAsInt(f) != 0 ? 1 : 0;
        }
        return left;
    }

    private ToIntFunction<Facts> and() {
        ToIntFunction<Facts> left = not();
        while (may("and")) {
            ToIntFunction<Facts> a = left, b = not();
            left = f -> a.applyAsInt(f) != 0 && b.applyAsInt(f) != 0 ? 1 : 0;
        }
        return left;
    }

    private ToIntFunction<Facts> not() {
        if (sees("not")) {
            openOne();
            ToIntFunction<Facts> a = not();
            open--;
            return f -> a.applyAsInt(f) == 0 ? 1 : 0;
        }
        ToIntFunction<Facts> a = sum();
        if (may("<")) {
            ToIntFunction<Facts> b = sum();
            return f -> a.applyAsInt(f) < b.applyAsInt(f) ? 1 : 0;
        }
        if (may("=")) {
            ToIntFunction<Facts> b = sum();
            return f -> a.applyAsInt(f) == b.applyAsInt(f) ? 1 : 0;
        }
        return a;
    }

    private ToIntFunction<Facts> sum() {
        ToIntFunction<Facts> left = term();
        while (sees("+") || sees("-")) {
            boolean plus = sees("+");
            now++;
            ToIntFunction<Facts> a = left, b = term();
            left = plus ? f -> a.applyAsInt(f) + b.applyAsInt(f) : f -> a.applyAsInt(f) - b.applyAsInt(f);
        }
        return left;
    }

    private ToIntFunction<Facts> term() {
        ToIntFunction<Facts> left = one();
        while (may("*")) {
            ToIntFunction<Facts> a = left, b = one();
            left = f -> a.applyAsInt(f) * b.applyAsInt(f);
        }
        return left;
    }

    private ToIntFunction<Facts> one() {
        String t = tokens.get(now);
        if (t.equals("-")) {
            openOne();
            ToIntFunction<Facts> a = one();
            open--;
            return f -> -a.applyAsInt(f);
        }
        if (t.equals("(")) {
            openOne();
            ToIntFunction<Facts> a = e();
            must(")");
            open--;
            return a;
        }
        ToIntFunction<Facts> a = switch (t) {
            case "found" -> Facts::found;
            case "men" -> Facts::men;
            case "looks" -> Facts::looks;
            case "missing" -> Facts::missing;
            case "rings" -> Facts::rings;
            case "longest" -> Facts::longest;
            default -> null;
        };
        if (a == null) {
            if (!t.matches("[0-9]+")) throw fault();
            int value = Integer.parseInt(t);
            a = f -> value;
        }
        now++;
        return a;
    }

    int text() {
        if (rules.size() == 6) return -4;
        cut();
        tape = "";
        try {
            must("home");
            ToIntFunction<Facts> home = e();
            must(";");
            must("some");
            ToIntFunction<Facts> some = e();
            must(";");
            must("bet");
            ToIntFunction<Facts> bet = e();
            must(";");
            must("");
            rules.add(new Rule(home, some, bet));
            return rules.size() - 1;
        } catch (Fault f) {
            return -100 - f.place;
        }
    }

    int force(int text) {
        if (!in(text, 0, rules.size() - 1)) return -2;
        int was = rule;
        rule = text;
        return was;
    }

    Facts facts(List<Integer> boxes, int found, int looks) {
        return new Facts(found, boxes.size(), looks, missing(boxes), ringCount(boxes), longest(boxes));
    }

    int bet() {
        return rules.get(rule).bet().applyAsInt(facts(boxes, 0, 0));
    }

    int plan(int kind, int number) {
        if (!in(kind, 0, 5) || !in(number, 0, 11)) return -2;
        if (plans.size() == 8) return -4;
        plans.add(new KindAndNumber(kind, number));
        return plans.size() - 1;
    }

    static int first(int kind, int number, int man, int n) {
        return switch (kind) {
            case 0 -> 0;
            case 1 -> (man + number) % n;
            case 2 -> man;
            case 3 -> (first(2, number, man, n) + number) % n;
            case 4 -> first(2, number, man, n);
            default -> first(1, number, man, n);
        };
    }

    static int behind(int kind, int number, int b, int v, int k, int n) {
        return switch (kind) {
            case 0, 1 -> (b + 1) % n;
            case 2 -> v != -1 ? v : behind(0, number, b, v, k, n);
            case 3 -> v != -1 ? (behind(2, number, b, v, k, n) + number) % n : behind(2, number, b, v, k, n);
            case 4 -> behind(k == number ? 0 : 2, number, b, v, k, n);
            default -> Math.floorMod(b - 1, n);
        };
    }

    int next(int plan, int man, int box, int k) {
        if (!in(plan, 0, plans.size() - 1) || !in(man, 0, n() - 1) || !in(k, 0, 12)) return -2;
        KindAndNumber p = plans.get(plan);
        if (k == 0) return first(p.kind(), p.number(), man, n());
        if (!in(box, 0, n() - 1)) return -2;
        return behind(p.kind(), p.number(), box, boxes.get(box), k, n());
    }

    int look(KindAndNumber p, List<Integer> boxes, int man) {
        int n = boxes.size();
        int box = first(p.kind(), p.number(), man, n);
        for (int k = 1; k <= looks && k <= n; k++) {
            if (boxes.get(box) == man) return k;
            box = behind(p.kind(), p.number(), box, boxes.get(box), k, n);
        }
        return 0;
    }

    int[] result(KindAndNumber p, List<Integer> boxes) {
        int found = 0;
        int all = 0;
        for (int man = 0; man < boxes.size(); man++) {
            int look = look(p, boxes, man);
            if (look != 0) found++;
            all += look != 0 ? look : Math.min(looks, boxes.size());
        }
        Facts f = facts(boxes, found, all);
        int some = rules.get(rule).some().applyAsInt(f);
        if (some < 0) some = 0;
        if (some > boxes.size()) some = boxes.size();
        int home = rules.get(rule).home().applyAsInt(f) != 0 ? boxes.size() : some;
        return new int[] {found, all, home};
    }

    int found(int plan, int man) {
        if (!in(plan, 0, plans.size() - 1) || !in(man, 0, n() - 1)) return -2;
        return look(plans.get(plan), boxes, man);
    }

    int run(int plan, int what) {
        if (!in(plan, 0, plans.size() - 1) || !in(what, 0, 2)) return -2;
        return result(plans.get(plan), boxes)[what];
    }

    static long ways(int n) {
        return n == 0 ? 1 : n * ways(n - 1);
    }

    /** By the partitions of n into rings: n! / (product of each length, and of how many there are of it, drawn). */
    static long closedBy(int n, int most) {
        if (n == 0) return 1;
        if (most == 0) return 0;
        long sum = 0;
        for (int many = 0; many * most <= n; many++) {
            // choose many unordered rings of the length most out of n
            long choices = ways(n) / ways(n - many * most) / ways(many);
            for (int i = 0; i < many; i++) {
                choices /= most;
            }
            sum += choices * closedBy(n - many * most, most - 1);
        }
        return sum;
    }

    long closed(int n, int most) {
        if (!in(n, 1, 12) || !in(most, 0, 12)) return Dues.NO;
        return closedBy(n, most);
    }

    static List<List<Integer>> layings(int n) {
        List<List<Integer>> all = new ArrayList<>();
        layings(n, new ArrayList<>(), all);
        return all;
    }

    private static void layings(int n, List<Integer> ahead, List<List<Integer>> all) {
        if (ahead.size() == n) {
            all.add(new ArrayList<>(ahead));
            return;
        }
        for (int v = 0; v < n; v++) {
            if (!ahead.contains(v)) {
                ahead.add(v);
                layings(n, ahead, all);
                ahead.remove(ahead.size() - 1);
            }
        }
    }

    long[] home(KindAndNumber p) {
        return layings(n()).stream().mapToLong(l -> result(p, l)[2]).toArray();
    }

    long wins(int plan, int part) {
        if (!in(plan, 0, plans.size() - 1) || !in(part, 0, 1) || n() > 7) return Dues.NO;
        return part == 1 ? ways(n()) : Arrays.stream(home(plans.get(plan))).filter(h -> h == n()).count();
    }

    long mean(int plan, int part) {
        if (!in(plan, 0, plans.size() - 1) || !in(part, 0, 1) || n() > 7) return Dues.NO;
        java.math.BigInteger above = java.math.BigInteger.valueOf(Arrays.stream(home(plans.get(plan))).sum());
        java.math.BigInteger below = java.math.BigInteger.valueOf(ways(n()));
        return (part == 0 ? above : below).divide(above.gcd(below)).longValue();
    }

    int worst(int plan, int what) {
        if (!in(plan, 0, plans.size() - 1) || !in(what, 0, 1)) return -2;
        if (n() > 7) return -3;
        long[] home = home(plans.get(plan));
        int worst = 0;
        for (int i = 0; i < home.length; i++) {
            if (home[i] < home[worst]) worst = i;
        }
        if (what == 0) return (int) home[worst];
        StringBuilder digits = new StringBuilder();
        layings(n()).get(worst).forEach(v -> digits.append(v + 1));
        return Integer.parseInt(digits.toString());
    }

    int drawsOf(List<Integer> boxes) {
        int draws = 0;
        for (int number = 0; number < boxes.size(); number++) {
            if (result(new KindAndNumber(3, number), boxes)[2] == boxes.size()) draws++;
        }
        return draws;
    }

    int draws(int what) {
        if (!in(what, 0, 1)) return -2;
        if (what == 0) return drawsOf(boxes);
        if (n() > 7) return -3;
        return layings(n()).stream().mapToInt(this::drawsOf).min().getAsInt();
    }

    long costs(int plan) {
        if (!in(plan, 0, plans.size() - 1) || n() > 7) return Dues.NO;
        return Arrays.stream(home(new KindAndNumber(2, 0))).sum() - Arrays.stream(home(plans.get(plan))).sum();
    }

    int help(int what) {
        if (!in(what, 0, 2)) return -2;
        int least = Integer.MAX_VALUE;
        int pair = -1;
        for (int code = 0; code < 144; code++) {
            int a = code / 12;
            int b = code % 12;
            if (a < b && b < n() && longest(swapped(boxes, a, b)) < least) {
                least = longest(swapped(boxes, a, b));
                pair = code;
            }
        }
        if (least >= longest(boxes)) return -1;
        return what == 0 ? pair : what == 1 ? least : least > looks || boxes.contains(-1) ? 0 : 1;
    }

    int enough(int n, int hundredths) {
        if (!in(n, 1, 12) || !in(hundredths, 0, 100)) return -2;
        for (int m = 0;; m++) {
            if (closedBy(n, m) * 100 >= hundredths * ways(n)) return m;
        }
    }

    int order(int sheet, int what) {
        if (!in(sheet, 0, 3) || !in(what, 0, 1)) return -2;
        if (rows[sheet] == null) return -11;
        int[] w = rows[sheet].cells;
        if (w.length != n()) return -2;
        for (int v : w) {
            if (!in(v, 0, 99)) return -2;
        }
        List<Integer> order = own(n());
        order.sort((a, b) -> w[a] != w[b] ? w[b] - w[a] : a - b);
        int bits = 0;
        int sum = 0;
        for (int box : order.subList(0, Math.min(looks, n()))) {
            bits += 1 << box;
            sum += w[box];
        }
        return what == 0 ? bits : sum;
    }

    int image() {
        image = new Image(List.copyOf(boxes), looks, rule);
        return n();
    }

    int back() {
        if (image == null) return -3;
        boxes = image.boxes();
        looks = image.looks();
        rule = image.rule();
        return n();
    }

    int count(int what) {
        int[] counts = {n(), looks, plans.size(), rules.size(), tape.length(), rule};
        return in(what, 0, 5) ? counts[what] : -2;
    }

    int sheet(int sheet, int sort, int n) {
        if (!in(sheet, 0, 3) || !in(sort, -1, 2)) return -2;
        if (sort == -1) {
            rows[sheet] = null;
            return 1;
        }
        if (n > 40) return -2;
        if (n < 0) return -14;
        rows[sheet] = new Row(sort, n);
        return 1;
    }

    int cell(int sheet, int i, int v) {
        if (!in(sheet, 0, 3)) return -2;
        if (rows[sheet] == null) return -11;
        if (!in(i, 0, rows[sheet].cells.length - 1)) return -12;
        rows[sheet].cells[i] = rows[sheet].sort == 0 ? (byte) v : rows[sheet].sort == 1 ? (short) v : v;
        return 1;
    }

    int copy(int sheet, int i, int other, int j, int n) {
        if (!in(sheet, 0, 3) || !in(other, 0, 3)) return -2;
        if (rows[sheet] == null || rows[other] == null) return -11;
        if (rows[sheet].sort != rows[other].sort) return -13;
        try {
            System.arraycopy(rows[sheet].cells, i, rows[other].cells, j, n);
        } catch (IndexOutOfBoundsException e) {
            return -12;
        }
        return n;
    }

    int plans(int sheet, int sort, int from, int n) {
        if (!in(sheet, 0, 3) || !in(sort, 0, 2) || !in(n, 0, 8)) return -2;
        if (rows[sheet] == null) return -11;
        if (rows[sheet].sort != sort) return -13;
        int came = 0;
        for (int i = 0; i < n; i++) {
            long at = from + 2L * i;
            if (at < 0 || at + 1 >= rows[sheet].cells.length) return -12;
            if (plan(rows[sheet].cells[(int) at], rows[sheet].cells[(int) at + 1]) >= 0) came++;
        }
        return came;
    }

    int taken(int plan, int k) {
        if (!in(k, 0, 5)) return -2;
        if (!in(plan, 0, plans.size() - 1)) return -11;
        String[] over = {"0", "01", "02", "023", "024", "015"};
        KindAndNumber p = plans.get(plan);
        return over[p.kind()].indexOf('0' + k) >= 0 ? p.number() : -13;
    }
}
