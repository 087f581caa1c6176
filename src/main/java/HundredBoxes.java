/** Boxes with numbers, men who look for theirs by plans, and the odds over all layings. */
public final class HundredBoxes {
    public static final int NONE = -1, BAD = -2, STATE = -3, FULL = -4;
    public static final long NO = -4611686018427387904L;

    // what the host refuses
    private static final int NOTHING = -11, OUTSIDE = -12, UNLIKE = -13, BELOW_ZERO = -14;

    private static final int MOST_BOXES = 12, MOST_LOOKS = 12, MOST_NUMBER = 11;
    private static final int MOST_OF_ALL_LAYINGS = 7;
    private static final int MOST_PLANS = 8, MOST_TEXTS = 6, MOST_TAPE = 160, MOST_OPEN = 5;
    private static final int MOST_SHEETS = 4, MOST_CELLS = 40, MOST_WEIGHT = 99;
    private static final int FIRST_FAULT = -100;
    private static final String FIRST_RULE = "home found = men ; some 0 ; bet men - longest ;";

    // what NAMES of a text stand for: places in a row of facts
    private static final int FOUND = 0, MEN = 1, TAKEN = 2, MISSING = 3, RINGS = 4, LONGEST = 5, FACTS = 6;

    private final Laying laying = new Laying();
    private int looks = 3;
    private int rule = 0;

    private final Laying keptLaying = new Laying();
    private int keptLooks, keptRule;
    private boolean imageKept = false;

    private final Plan[] plans = new Plan[MOST_PLANS];
    private int planCount = 0;
    private final Plan[] shiftedPlans = new Plan[MOST_BOXES];
    private final Plan ringPlan = new Plan(Plan.RING, 0);

    private final Text[] texts = new Text[MOST_TEXTS];
    private int textCount = 0;
    private final Tape tape = new Tape();
    private final Reader reader = new Reader();

    private final Sheet[] sheets = new Sheet[MOST_SHEETS];

    // rows that calls work in, made once since nothing that a call makes is given back
    private final Laying trial = new Laying();
    private final int[] facts = new int[FACTS];
    private final long[] ways = new long[MOST_BOXES + 1];
    private final Tally drawsTally = new Tally();

    public HundredBoxes() {
        laying.layOwn(6);
        for (int i = 0; i < MOST_SHEETS; i++) {
            sheets[i] = new Sheet();
        }
        for (int i = 0; i < MOST_TEXTS; i++) {
            texts[i] = new Text();
        }
        for (int i = 0; i < MOST_BOXES; i++) {
            shiftedPlans[i] = new Plan(Plan.SHIFTED, i);
        }
        for (int i = 0; i < FIRST_RULE.length(); i++) {
            tape.add(FIRST_RULE.charAt(i));
        }
        reader.readText(tape, texts[0]);
        tape.clear();
        textCount = 1;
    }

    // ---- boxes

    public int boxes(int n) {
        if (n < 1 || n > MOST_BOXES) {
            return BAD;
        }
        int before = laying.size;
        laying.layOwn(n);
        return before;
    }

    public int looks(int n) {
        if (n < 1 || n > MOST_LOOKS) {
            return BAD;
        }
        int before = looks;
        looks = n;
        return before;
    }

    public int lay(int sheet) {
        Sheet row = sheetAt(sheet);
        if (row == null) {
            return BAD;
        }
        if (row.isMissing()) {
            return NOTHING;
        }
        if (row.size != laying.size || !holdsLaying(row)) {
            return BAD;
        }
        int numbers = 0;
        for (int box = 0; box < laying.size; box++) {
            laying.put(box, row.at(box));
            if (row.at(box) != NONE) {
                numbers++;
            }
        }
        return numbers;
    }

    private static boolean holdsLaying(Sheet row) {
        int seen = 0;
        for (int i = 0; i < row.size; i++) {
            int number = row.at(i);
            if (number < NONE || number >= row.size) {
                return false;
            }
            if (number != NONE) {
                if ((seen >> number & 1) == 1) {
                    return false;
                }
                seen |= 1 << number;
            }
        }
        return true;
    }

    public int swap(int a, int b) {
        if (!laying.has(a) || !laying.has(b) || a == b) {
            return BAD;
        }
        laying.change(a, b);
        return 1;
    }

    public int empty(int box) {
        if (!laying.has(box)) {
            return BAD;
        }
        int number = laying.at(box);
        if (number == NONE) {
            return STATE;
        }
        laying.put(box, NONE);
        return number;
    }

    public int box(int box, int what) {
        if (!laying.has(box) || what < 0 || what > 1) {
            return BAD;
        }
        return what == 0 ? laying.at(box) : laying.ringLength(box);
    }

    public int rings(int what) {
        if (what < 0 || what > 2) {
            return BAD;
        }
        laying.survey();
        if (what == 0) {
            return laying.ringCount;
        }
        return what == 1 ? laying.longest : laying.missing;
    }

    // ---- texts, plans

    public int feed(int n, long bytes) {
        if (n < 1 || n > 8) {
            return BAD;
        }
        if (n > MOST_TAPE - tape.size) {
            return FULL;
        }
        for (int i = 0; i < n; i++) {
            tape.add((int) (bytes >> 8 * i) & 255);
        }
        return tape.size;
    }

    public int text() {
        if (textCount >= MOST_TEXTS) {
            return FULL;
        }
        int fault = reader.readText(tape, texts[textCount]);
        tape.clear();
        if (fault != NONE) {
            return FIRST_FAULT - fault;
        }
        textCount++;
        return textCount - 1;
    }

    public int force(int text) {
        if (text < 0 || text >= textCount) {
            return BAD;
        }
        int before = rule;
        rule = text;
        return before;
    }

    public int bet() {
        noteLaying(laying);
        facts[FOUND] = 0;
        facts[TAKEN] = 0;
        return worth(Text.BET);
    }

    public int plan(int kind, int number) {
        if (!Plan.isKind(kind) || number < 0 || number > MOST_NUMBER) {
            return BAD;
        }
        if (planCount >= MOST_PLANS) {
            return FULL;
        }
        plans[planCount] = new Plan(kind, number);
        planCount++;
        return planCount - 1;
    }

    public int next(int plan, int man, int box, int k) {
        Plan asked = planAt(plan);
        if (asked == null || !laying.has(man) || k < 0 || k > MOST_LOOKS) {
            return BAD;
        }
        if (k == 0) {
            return asked.firstBox(man, laying.size);
        }
        if (!laying.has(box)) {
            return BAD;
        }
        return asked.boxBehind(box, laying.at(box), k, laying.size);
    }

    // ---- runs

    public int found(int plan, int man) {
        Plan asked = planAt(plan);
        if (asked == null || !laying.has(man)) {
            return BAD;
        }
        return asked.lookThatFinds(laying, man, looksOfEach());
    }

    public int run(int plan, int what) {
        Plan asked = planAt(plan);
        if (asked == null || what < 0 || what > 2) {
            return BAD;
        }
        noteLaying(laying);
        int home = goHome(asked, laying);
        if (what == 2) {
            return home;
        }
        return what == 0 ? facts[FOUND] : facts[TAKEN];
    }

    private int looksOfEach() {
        return Math.min(looks, laying.size);
    }

    private void noteLaying(Laying where) {
        where.survey();
        facts[MEN] = where.size;
        facts[MISSING] = where.missing;
        facts[RINGS] = where.ringCount;
        facts[LONGEST] = where.longest;
    }

    /** How many go home by a plan in a laying that has been noted. */
    private int goHome(Plan plan, Laying where) {
        noteRun(plan, where);
        if (worth(Text.HOME) != 0) {
            return where.size;
        }
        return Math.max(0, Math.min(where.size, worth(Text.SOME)));
    }

    private void noteRun(Plan plan, Laying where) {
        int most = looksOfEach();
        int found = 0;
        int taken = 0;
        for (int man = 0; man < where.size; man++) {
            int look = plan.lookThatFinds(where, man, most);
            if (look > 0) {
                found++;
                taken += look;
            } else {
                taken += most;
            }
        }
        facts[FOUND] = found;
        facts[TAKEN] = taken;
    }

    /** What a part of the rule comes to by the facts. */
    private int worth(int part) {
        return rule >= 0 && rule < textCount ? texts[rule].worth(part, facts) : 0;
    }

    // ---- all layings

    public long closed(int n, int most) {
        if (n < 1 || n > MOST_BOXES || most < 0 || most > MOST_BOXES) {
            return NO;
        }
        return waysClosed(n, most);
    }

    /** Counts by the length of the ring of the last box; the others of that ring are drawn in order. */
    private long waysClosed(int n, int most) {
        ways[0] = 1;
        for (int size = 1; size <= n && size <= MOST_BOXES; size++) {
            long sum = 0;
            long drawn = 1;
            for (int length = 1; length <= size && length <= most; length++) {
                sum += drawn * ways[size - length];
                drawn *= size - length;
            }
            ways[size] = sum;
        }
        return n >= 0 && n <= MOST_BOXES ? ways[n] : 0;
    }

    private static long factorial(int n) {
        long product = 1;
        for (int i = 2; i <= n; i++) {
            product *= i;
        }
        return product;
    }

    public long wins(int plan, int part) {
        Plan asked = planAt(plan);
        if (asked == null || part < 0 || part > 1 || hasTooManyLayings()) {
            return NO;
        }
        return part == 0 ? tallyOf(asked).wins : factorial(laying.size);
    }

    public long mean(int plan, int part) {
        Plan asked = planAt(plan);
        if (asked == null || part < 0 || part > 1 || hasTooManyLayings()) {
            return NO;
        }
        long home = tallyOf(asked).sum;
        long layings = factorial(laying.size);
        long common = commonDivisor(layings, home);
        if (common < 1) {
            return NO;
        }
        return part == 0 ? home / common : layings / common;
    }

    private static long commonDivisor(long a, long b) {
        // Euclid's steps halve a number in two, so a long has far less than 200 of them
        for (int step = 0; step < 200 && b != 0; step++) {
            long rest = a % b;
            a = b;
            b = rest;
        }
        return a;
    }

    public int worst(int plan, int what) {
        Plan asked = planAt(plan);
        if (asked == null || what < 0 || what > 1) {
            return BAD;
        }
        if (hasTooManyLayings()) {
            return STATE;
        }
        Tally tally = tallyOf(asked);
        return what == 0 ? tally.least : tally.leastDigits;
    }

    public int draws(int what) {
        if (what < 0 || what > 1) {
            return BAD;
        }
        if (what == 0) {
            return drawsThatWin(laying);
        }
        return hasTooManyLayings() ? STATE : leastDraws();
    }

    private int drawsThatWin(Laying where) {
        noteLaying(where);
        int draws = 0;
        for (int number = 0; number < where.size && number < MOST_BOXES; number++) {
            if (goHome(shiftedPlans[number], where) == where.size) {
                draws++;
            }
        }
        return draws;
    }

    private int leastDraws() {
        if (!drawsTally.isOf(laying.size, looks, rule)) {
            drawsTally.begin(laying.size, looks, rule);
            trial.layOwn(laying.size);
            long layings = factorial(laying.size);
            // no laying is met by less than 0 draws
            for (long i = 0; i < layings && drawsTally.least != 0; i++) {
                drawsTally.add(drawsThatWin(trial), trial);
                trial.advance();
            }
        }
        return drawsTally.least;
    }

    public long costs(int plan) {
        Plan asked = planAt(plan);
        if (asked == null || hasTooManyLayings()) {
            return NO;
        }
        return tallyOf(ringPlan).sum - tallyOf(asked).sum;
    }

    private boolean hasTooManyLayings() {
        return laying.size > MOST_OF_ALL_LAYINGS;
    }

    private Tally tallyOf(Plan plan) {
        Tally tally = plan.tally;
        if (!tally.isOf(laying.size, looks, rule)) {
            tally.begin(laying.size, looks, rule);
            trial.layOwn(laying.size);
            long layings = factorial(laying.size);
            for (long i = 0; i < layings; i++) {
                noteLaying(trial);
                tally.add(goHome(plan, trial), trial);
                trial.advance();
            }
        }
        return tally;
    }

    // ---- help, looks

    public int help(int what) {
        if (what < 0 || what > 2) {
            return BAD;
        }
        laying.survey();
        int least = laying.longest;
        int pair = NONE;
        trial.layAs(laying);
        for (int a = 0; a < laying.size; a++) {
            for (int b = a + 1; b < laying.size; b++) {
                trial.change(a, b);
                trial.survey();
                if (trial.longest < least) {
                    least = trial.longest;
                    pair = 12 * a + b;
                }
                trial.change(a, b);
            }
        }
        if (pair == NONE || what == 0) {
            return pair;
        }
        if (what == 1) {
            return least;
        }
        return least <= looks && laying.missing == 0 ? 1 : 0;
    }

    public int enough(int n, int hundredths) {
        if (n < 1 || n > MOST_BOXES || hundredths < 0 || hundredths > 100) {
            return BAD;
        }
        long asked = hundredths * factorial(n);
        int number = 0;
        while (number < n && 100 * waysClosed(n, number) < asked) {
            number++;
        }
        return number;
    }

    public int order(int sheet, int what) {
        Sheet row = sheetAt(sheet);
        if (row == null || what < 0 || what > 1) {
            return BAD;
        }
        if (row.isMissing()) {
            return NOTHING;
        }
        if (row.size != laying.size || !holdsWeights(row)) {
            return BAD;
        }
        int chosen = 0;
        int weight = 0;
        for (int look = 0; look < looksOfEach(); look++) {
            int box = heaviestBut(row, chosen);
            chosen |= 1 << box;
            weight += row.at(box);
        }
        return what == 0 ? chosen : weight;
    }

    private static boolean holdsWeights(Sheet row) {
        for (int i = 0; i < row.size; i++) {
            if (row.at(i) < 0 || row.at(i) > MOST_WEIGHT) {
                return false;
            }
        }
        return true;
    }

    /** The first of the heaviest boxes that have not been chosen. */
    private static int heaviestBut(Sheet row, int chosen) {
        int heaviest = 0;
        int weight = -1;
        for (int box = 0; box < row.size; box++) {
            if ((chosen >> box & 1) == 0 && row.at(box) > weight) {
                heaviest = box;
                weight = row.at(box);
            }
        }
        return heaviest;
    }

    public int image() {
        keptLaying.layAs(laying);
        keptLooks = looks;
        keptRule = rule;
        imageKept = true;
        return laying.size;
    }

    public int back() {
        if (!imageKept) {
            return STATE;
        }
        laying.layAs(keptLaying);
        looks = keptLooks;
        rule = keptRule;
        return laying.size;
    }

    public int count(int what) {
        switch (what) {
            case 0: return laying.size;
            case 1: return looks;
            case 2: return planCount;
            case 3: return textCount;
            case 4: return tape.size;
            case 5: return rule;
            default: return BAD;
        }
    }

    // ---- the host

    public int sheet(int sheet, int sort, int n) {
        Sheet row = sheetAt(sheet);
        if (row == null || sort < Sheet.NO_SORT || sort > Sheet.INTS) {
            return BAD;
        }
        if (sort == Sheet.NO_SORT) {
            row.become(Sheet.NO_SORT, 0);
            return 1;
        }
        if (n > MOST_CELLS) {
            return BAD;
        }
        if (n < 0) {
            return BELOW_ZERO;
        }
        row.become(sort, n);
        return 1;
    }

    public int cell(int sheet, int i, int v) {
        Sheet row = sheetAt(sheet);
        if (row == null) {
            return BAD;
        }
        if (row.isMissing()) {
            return NOTHING;
        }
        if (!row.has(i)) {
            return OUTSIDE;
        }
        row.put(i, v);
        return 1;
    }

    public int copy(int sheet, int i, int other, int j, int n) {
        Sheet from = sheetAt(sheet);
        Sheet to = sheetAt(other);
        if (from == null || to == null) {
            return BAD;
        }
        if (from.isMissing() || to.isMissing()) {
            return NOTHING;
        }
        if (from.sort != to.sort) {
            return UNLIKE;
        }
        if (!from.hasAll(i, n) || !to.hasAll(j, n)) {
            return OUTSIDE;
        }
        System.arraycopy(from.cells, i, to.cells, j, n);
        return n;
    }

    public int plans(int sheet, int sort, int from, int n) {
        Sheet row = sheetAt(sheet);
        if (row == null || sort < Sheet.BYTES || sort > Sheet.INTS || n < 0 || n > MOST_PLANS) {
            return BAD;
        }
        if (row.isMissing()) {
            return NOTHING;
        }
        if (row.sort != sort) {
            return UNLIKE;
        }
        int came = 0;
        int place = from;
        for (int i = 0; i < n; i++) {
            if (!row.hasAll(place, 2)) {
                return OUTSIDE;
            }
            if (plan(row.at(place), row.at(place + 1)) >= 0) {
                came++;
            }
            place += 2;
        }
        return came;
    }

    public int taken(int plan, int k) {
        if (!Plan.isKind(k)) {
            return BAD;
        }
        Plan asked = planAt(plan);
        if (asked == null) {
            return NOTHING;
        }
        return asked.isTakenFor(k) ? asked.number : UNLIKE;
    }

    private Plan planAt(int plan) {
        return plan >= 0 && plan < planCount ? plans[plan] : null;
    }

    private Sheet sheetAt(int sheet) {
        return sheet >= 0 && sheet < MOST_SHEETS ? sheets[sheet] : null;
    }

    /** What lies in n boxes. */
    private static final class Laying {
        private final int[] numbers = new int[MOST_BOXES];
        private int size = 0;
        // of the laying as it was at the last survey
        private int ringCount, longest, missing;

        void layOwn(int n) {
            size = Math.max(0, Math.min(n, MOST_BOXES));
            for (int box = 0; box < size; box++) {
                numbers[box] = box;
            }
        }

        void layAs(Laying other) {
            size = other.size;
            System.arraycopy(other.numbers, 0, numbers, 0, MOST_BOXES);
        }

        boolean has(int box) {
            return box >= 0 && box < size;
        }

        int at(int box) {
            return box >= 0 && box < size ? numbers[box] : NONE;
        }

        void put(int box, int number) {
            if (has(box)) {
                numbers[box] = number;
            }
        }

        void change(int a, int b) {
            int number = at(a);
            put(a, at(b));
            put(b, number);
        }

        int ringLength(int box) {
            int place = at(box);
            for (int length = 1; length <= size && place != NONE; length++) {
                if (place == box) {
                    return length;
                }
                place = at(place);
            }
            return 0;
        }

        /** Counts rings and what is missing. */
        void survey() {
            ringCount = 0;
            longest = 0;
            missing = 0;
            int seen = 0;
            for (int box = 0; box < size; box++) {
                if (at(box) == NONE) {
                    missing++;
                }
                if ((seen >> box & 1) == 0) {
                    int place = box;
                    int length = 0;
                    while (length < size && place != NONE && (seen >> place & 1) == 0) {
                        seen |= 1 << place;
                        place = at(place);
                        length++;
                    }
                    // another end than the first box: nothing, or a way that was walked before
                    if (place == box) {
                        ringCount++;
                        longest = Math.max(longest, length);
                    }
                }
            }
        }

        /** Becomes the next one of all layings, as digits; behind the last one it stays. */
        void advance() {
            int a = size - 2;
            while (a >= 0 && at(a) > at(a + 1)) {
                a--;
            }
            if (a < 0) {
                return;
            }
            int b = size - 1;
            while (b > a && at(b) < at(a)) {
                b--;
            }
            change(a, b);
            int high = size - 1;
            for (int low = a + 1; low < high; low++) {
                change(low, high);
                high--;
            }
        }

        int digits() {
            int digits = 0;
            for (int box = 0; box < size; box++) {
                digits = 10 * digits + at(box) + 1;
            }
            return digits;
        }
    }

    /** How men open boxes. */
    private static final class Plan {
        private static final int PLAN = 0, GUESS = 1, RING = 2, SHIFTED = 3, SLIP = 4, BACK = 5;
        // under which kind each kind stands
        private static final int[] ABOVE = {NONE, PLAN, PLAN, RING, RING, GUESS};

        private final int kind;
        private final int number;
        private final Tally tally = new Tally();

        Plan(int kind, int number) {
            this.kind = kind;
            this.number = number;
        }

        static boolean isKind(int kind) {
            return kind >= PLAN && kind <= BACK;
        }

        boolean isTakenFor(int asked) {
            int above = kind;
            for (int step = 0; step < ABOVE.length && isKind(above); step++) {
                if (above == asked) {
                    return true;
                }
                above = ABOVE[above];
            }
            return false;
        }

        int firstBox(int man, int n) {
            if (n < 1) {
                return 0;
            }
            switch (kind) {
                case GUESS:
                case SHIFTED:
                case BACK:
                    return (man + number) % n;
                case RING:
                case SLIP:
                    return man;
                default:
                    return 0;
            }
        }

        /** The box that is opened behind one in which a number was seen, some having been opened. */
        int boxBehind(int box, int seen, int opened, int n) {
            if (n < 1) {
                return 0;
            }
            int onward = (box + 1) % n;
            switch (kind) {
                case RING:
                    return seen == NONE ? onward : seen;
                case SHIFTED:
                    return seen == NONE ? onward : (seen + number) % n;
                case SLIP:
                    return seen == NONE || opened == number ? onward : seen;
                case BACK:
                    return (box + n - 1) % n;
                default:
                    return onward;
            }
        }

        /** In the how maniest look a man finds his; 0: in none. */
        int lookThatFinds(Laying where, int man, int most) {
            int n = where.size;
            int box = firstBox(man, n);
            for (int look = 1; look <= most; look++) {
                int seen = where.at(box);
                if (seen == man) {
                    return look;
                }
                box = boxBehind(box, seen, look, n);
            }
            return 0;
        }
    }

    /** One number of each of all layings, summed up; kept with what it was worked out for, since its parts are asked one by one. */
    private static final class Tally {
        private int size = 0, looks, rule;
        private int wins, least, leastDigits;
        private long sum;

        boolean isOf(int size, int looks, int rule) {
            return this.size == size && this.looks == looks && this.rule == rule;
        }

        void begin(int size, int looks, int rule) {
            this.size = size;
            this.looks = looks;
            this.rule = rule;
            wins = 0;
            sum = 0;
            least = NONE;
            leastDigits = 0;
        }

        void add(int number, Laying where) {
            sum += number;
            if (number == size) {
                wins++;
            }
            if (least == NONE || number < least) {
                least = number;
                leastDigits = where.digits();
            }
        }
    }

    /** A row of numbers of a sort, or missing. */
    private static final class Sheet {
        private static final int NO_SORT = -1, BYTES = 0, SHORTS = 1, INTS = 2;

        private final int[] cells = new int[MOST_CELLS];
        private int sort = NO_SORT;
        private int size = 0;

        void become(int sort, int size) {
            this.sort = sort;
            this.size = Math.max(0, Math.min(size, MOST_CELLS));
            for (int i = 0; i < MOST_CELLS; i++) {
                cells[i] = 0;
            }
        }

        boolean isMissing() {
            return sort == NO_SORT;
        }

        boolean has(int i) {
            return i >= 0 && i < size;
        }

        boolean hasAll(int i, int n) {
            // by a difference, since i + n may wrap
            return i >= 0 && n >= 0 && n <= size && i <= size - n;
        }

        int at(int i) {
            return has(i) ? cells[i] : 0;
        }

        void put(int i, int v) {
            if (has(i)) {
                cells[i] = sort == BYTES ? (byte) v : sort == SHORTS ? (short) v : v;
            }
        }
    }

    /** The bytes of which a text is read. */
    private static final class Tape {
        private static final int END = -1;

        private final int[] bytes = new int[MOST_TAPE];
        private int size = 0;

        void add(int value) {
            if (size < MOST_TAPE) {
                bytes[size] = value;
                size++;
            }
        }

        void clear() {
            size = 0;
        }

        int at(int place) {
            return place >= 0 && place < size ? bytes[place] : END;
        }
    }

    /** Three formulas; the codes of each stand so that a sign follows what it joins. */
    private static final class Text {
        private static final int HOME = 0, SOME = 1, BET = 2, PARTS = 3;
        // of six levels of brackets each keeps five values at most open, by or, and, <, +, *
        private static final int MOST_VALUES = 40;

        private final int[] codes = new int[MOST_TAPE];
        private int size = 0;
        private final int[] ends = new int[PARTS];
        private final int[] values = new int[MOST_VALUES];
        private int top;

        void clear() {
            size = 0;
        }

        void add(int code) {
            if (size < MOST_TAPE) {
                codes[size] = code;
                size++;
            }
        }

        void endPart(int part) {
            if (part >= 0 && part < PARTS) {
                ends[part] = size;
            }
        }

        int worth(int part, int[] facts) {
            if (part < 0 || part >= PARTS) {
                return 0;
            }
            top = 0;
            int from = part == 0 ? 0 : ends[part - 1];
            for (int i = from; i < ends[part] && i < MOST_TAPE; i++) {
                work(codes[i], facts);
            }
            return pull();
        }

        private void work(int code, int[] facts) {
            if (code < Token.FIRST_NAME) {
                push(code);
            } else if (code < Token.FIRST_KEY) {
                int name = code - Token.FIRST_NAME;
                push(name < facts.length ? facts[name] : 0);
            } else if (code == Token.NOT) {
                push(pull() == 0 ? 1 : 0);
            } else if (code == Token.NEGATIVE) {
                push(-pull());
            } else {
                int right = pull();
                push(join(code, pull(), right));
            }
        }

        private static int join(int code, int left, int right) {
            switch (code) {
                case Token.OR: return left != 0 || right != 0 ? 1 : 0;
                case Token.AND: return left != 0 && right != 0 ? 1 : 0;
                case Token.LESS: return left < right ? 1 : 0;
                case Token.EQUAL: return left == right ? 1 : 0;
                case Token.PLUS: return left + right;
                case Token.MINUS: return left - right;
                case Token.TIMES: return left * right;
                default: return 0;
            }
        }

        private void push(int value) {
            if (top < MOST_VALUES) {
                values[top] = value;
                top++;
            }
        }

        private int pull() {
            if (top < 1) {
                return 0;
            }
            top--;
            return values[top];
        }
    }

    /** What a token is: a number below FIRST_NAME is itself. */
    private static final class Token {
        private static final int MOST_DIGITS = 4, FIRST_NAME = 10000, FIRST_KEY = FIRST_NAME + FACTS;
        private static final int HOME = FIRST_KEY, SOME = FIRST_KEY + 1, BET = FIRST_KEY + 2;
        private static final int OR = FIRST_KEY + 3, AND = FIRST_KEY + 4, NOT = FIRST_KEY + 5;
        private static final int OPEN = FIRST_KEY + 6, CLOSE = FIRST_KEY + 7, STOP = FIRST_KEY + 8;
        private static final int PLUS = FIRST_KEY + 9, MINUS = FIRST_KEY + 10, TIMES = FIRST_KEY + 11;
        private static final int LESS = FIRST_KEY + 12, EQUAL = FIRST_KEY + 13;
        // a code of texts only: a minus ahead of one value
        private static final int NEGATIVE = FIRST_KEY + 14;
        private static final int END = FIRST_KEY + 15, WRONG = FIRST_KEY + 16;
    }

    /** Reads a text of a tape, token by token; a method that answers false stopped at the faulty token. */
    private static final class Reader {
        private Tape tape;
        private Text text;
        private int token;
        // the first byte of the token, and the first one behind it
        private int start, behind;

        /** Answers the place of the fault, or NONE. */
        int readText(Tape from, Text to) {
            tape = from;
            text = to;
            behind = 0;
            text.clear();
            take();
            boolean stands = readPart(Token.HOME, Text.HOME)
                && readPart(Token.SOME, Text.SOME)
                && readPart(Token.BET, Text.BET)
                && token == Token.END;
            return stands ? NONE : start;
        }

        private boolean readPart(int key, int part) {
            if (token != key) {
                return false;
            }
            take();
            if (!readFormula(0) || token != Token.STOP) {
                return false;
            }
            text.endPart(part);
            take();
            return true;
        }

        // open: how many brackets, nots and minuses are open; it bounds how deep these methods call one another

        private boolean readFormula(int open) {
            boolean stands = readAnd(open);
            for (int i = 0; i < MOST_TAPE && stands && token == Token.OR; i++) {
                take();
                stands = readAnd(open);
                text.add(Token.OR);
            }
            return stands;
        }

        private boolean readAnd(int open) {
            boolean stands = readNot(open);
            for (int i = 0; i < MOST_TAPE && stands && token == Token.AND; i++) {
                take();
                stands = readNot(open);
                text.add(Token.AND);
            }
            return stands;
        }

        private boolean readNot(int open) {
            if (token != Token.NOT) {
                return readComparison(open);
            }
            if (open >= MOST_OPEN) {
                return false;
            }
            take();
            boolean stands = readNot(open + 1);
            text.add(Token.NOT);
            return stands;
        }

        private boolean readComparison(int open) {
            boolean stands = readSum(open);
            if (stands && (token == Token.LESS || token == Token.EQUAL)) {
                int sign = token;
                take();
                stands = readSum(open);
                text.add(sign);
            }
            return stands;
        }

        private boolean readSum(int open) {
            boolean stands = readTerm(open);
            for (int i = 0; i < MOST_TAPE && stands && (token == Token.PLUS || token == Token.MINUS); i++) {
                int sign = token;
                take();
                stands = readTerm(open);
                text.add(sign);
            }
            return stands;
        }

        private boolean readTerm(int open) {
            boolean stands = readOne(open);
            for (int i = 0; i < MOST_TAPE && stands && token == Token.TIMES; i++) {
                take();
                stands = readOne(open);
                text.add(Token.TIMES);
            }
            return stands;
        }

        private boolean readOne(int open) {
            if (token < Token.FIRST_KEY) {
                text.add(token);
                take();
                return true;
            }
            if (open >= MOST_OPEN) {
                return false;
            }
            if (token == Token.MINUS) {
                take();
                boolean stands = readOne(open + 1);
                text.add(Token.NEGATIVE);
                return stands;
            }
            if (token != Token.OPEN) {
                return false;
            }
            take();
            if (!readFormula(open + 1) || token != Token.CLOSE) {
                return false;
            }
            take();
            return true;
        }

        /** Goes on to the next token. */
        private void take() {
            start = behind;
            for (int i = 0; i < MOST_TAPE && isBlank(tape.at(start)); i++) {
                start++;
            }
            behind = start;
            int first = tape.at(start);
            if (first == Tape.END) {
                token = Token.END;
            } else if (isLetter(first)) {
                token = wordToken();
            } else if (isDigit(first)) {
                token = numberToken();
            } else {
                behind = start + 1;
                token = signToken(first);
            }
        }

        private int wordToken() {
            for (int i = 0; i < MOST_TAPE && isLetter(tape.at(behind)); i++) {
                behind++;
            }
            if (isWord("found")) return Token.FIRST_NAME + FOUND;
            if (isWord("men")) return Token.FIRST_NAME + MEN;
            if (isWord("looks")) return Token.FIRST_NAME + TAKEN;
            if (isWord("missing")) return Token.FIRST_NAME + MISSING;
            if (isWord("rings")) return Token.FIRST_NAME + RINGS;
            if (isWord("longest")) return Token.FIRST_NAME + LONGEST;
            if (isWord("home")) return Token.HOME;
            if (isWord("some")) return Token.SOME;
            if (isWord("bet")) return Token.BET;
            if (isWord("or")) return Token.OR;
            if (isWord("and")) return Token.AND;
            if (isWord("not")) return Token.NOT;
            return Token.WRONG;
        }

        private boolean isWord(String word) {
            if (word.length() != behind - start) {
                return false;
            }
            for (int i = 0; i < word.length(); i++) {
                if (word.charAt(i) != tape.at(start + i)) {
                    return false;
                }
            }
            return true;
        }

        private int numberToken() {
            int number = 0;
            for (int i = 0; i < MOST_TAPE && isDigit(tape.at(behind)); i++) {
                // beyond the digits that a number may have it may wrap: it is none then
                number = 10 * number + tape.at(behind) - '0';
                behind++;
            }
            return behind - start > Token.MOST_DIGITS ? Token.WRONG : number;
        }

        private static int signToken(int sign) {
            switch (sign) {
                case '(': return Token.OPEN;
                case ')': return Token.CLOSE;
                case ';': return Token.STOP;
                case '+': return Token.PLUS;
                case '-': return Token.MINUS;
                case '*': return Token.TIMES;
                case '<': return Token.LESS;
                case '=': return Token.EQUAL;
                default: return Token.WRONG;
            }
        }

        private static boolean isBlank(int value) {
            return value == 32 || value == 10;
        }

        private static boolean isLetter(int value) {
            return value >= 'a' && value <= 'z';
        }

        private static boolean isDigit(int value) {
            return value >= '0' && value <= '9';
        }
    }
}
