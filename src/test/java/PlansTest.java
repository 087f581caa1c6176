/** Promises 13 to 16 and 32, 33: plans, runs. */
public final class PlansTest {
    private static final Dues T = new Dues();

    public static void main(String[] args) {
        plan();
        next();
        found();
        run();
        plansBySheet();
        taken();
        T.end();
    }

    /** One plan of each kind: its number is the kind. */
    private static HundredBoxes withAllKinds(int number) {
        HundredBoxes x = new HundredBoxes();
        for (int kind = 0; kind < 6; kind++) {
            T.due("plan(" + kind + ", " + number + ")", x.plan(kind, number), kind);
        }
        return x;
    }

    private static void plan() {
        HundredBoxes x = withAllKinds(11);
        T.due("plan(-1, 0)", x.plan(-1, 0), -2);
        T.due("plan(6, 0)", x.plan(6, 0), -2);
        T.due("plan(0, -1)", x.plan(0, -1), -2);
        T.due("plan(0, 12)", x.plan(0, 12), -2);
        T.due("plan(0, 0)", x.plan(0, 0), 6);
        T.due("plan(5, 0)", x.plan(5, 0), 7);
        T.due("plan(5, 0), full", x.plan(5, 0), -4);
        T.due("plan(6, 0), bad ahead of full", x.plan(6, 0), -2);
        T.due("count(2)", x.count(2), 8);
    }

    private static void nexts(HundredBoxes x, int man, int box, int k, int... want) {
        for (int plan = 0; plan < 6; plan++) {
            T.due("next(" + plan + ", " + man + ", " + box + ", " + k + ")", x.next(plan, man, box, k), want[plan]);
        }
    }

    private static void next() {
        HundredBoxes x = withAllKinds(2);
        Dues.lay(x, 3, 0, 1, -1, 4);
        nexts(x, 0, 0, 0, 0, 2, 0, 2, 0, 2);
        nexts(x, 4, 0, 0, 0, 1, 4, 1, 4, 1);
        nexts(x, 3, 99, 0, 0, 0, 3, 0, 3, 0);
        nexts(x, 0, 0, 1, 1, 1, 3, 0, 3, 4);
        nexts(x, 0, 0, 2, 1, 1, 3, 0, 1, 4);
        nexts(x, 0, 0, 3, 1, 1, 3, 0, 3, 4);
        nexts(x, 2, 3, 1, 4, 4, 4, 4, 4, 2);
        nexts(x, 2, 3, 2, 4, 4, 4, 4, 4, 2);
        nexts(x, 2, 4, 12, 0, 0, 4, 1, 4, 3);
        nexts(x, 2, 4, 2, 0, 0, 4, 1, 0, 3);
        nexts(x, 5, 0, 0, -2, -2, -2, -2, -2, -2);
        nexts(x, -1, 0, 0, -2, -2, -2, -2, -2, -2);
        nexts(x, 0, 5, 1, -2, -2, -2, -2, -2, -2);
        nexts(x, 0, -1, 1, -2, -2, -2, -2, -2, -2);
        nexts(x, 0, 0, 13, -2, -2, -2, -2, -2, -2);
        nexts(x, 0, 0, -1, -2, -2, -2, -2, -2, -2);
        T.due("next(6, 0, 0, 0)", x.next(6, 0, 0, 0), -2);
        T.due("next(-1, 0, 0, 0)", x.next(-1, 0, 0, 0), -2);
        x = withAllKinds(11);
        x.boxes(1);
        nexts(x, 0, 0, 0, 0, 0, 0, 0, 0, 0);
        nexts(x, 0, 0, 11, 0, 0, 0, 0, 0, 0);
        x.boxes(4);
        nexts(x, 3, 0, 0, 0, 2, 3, 2, 3, 2);
        nexts(x, 3, 3, 1, 0, 0, 3, 2, 3, 2);
    }

    private static void found() {
        HundredBoxes x = withAllKinds(1);
        Dues.lay(x, 1, 2, 3, 0, 4);
        x.looks(4);
        int[][] looks = {
            {4, 1, 2, 3, 0},
            {3, 4, 4, 4, 0},
            {4, 4, 4, 4, 1},
            {2, 3, 2, 3, 3},
            {4, 4, 4, 0, 1},
            {4, 3, 3, 3, 2},
        };
        for (int plan = 0; plan < 6; plan++) {
            for (int man = 0; man < 5; man++) {
                T.due("found(" + plan + ", " + man + ")", x.found(plan, man), looks[plan][man]);
            }
        }
        x.looks(3);
        T.due("found(2, 0), 3 looks", x.found(2, 0), 0);
        T.due("found(2, 5)", x.found(2, 5), -2);
        T.due("found(2, -1)", x.found(2, -1), -2);
        T.due("found(6, 0)", x.found(6, 0), -2);
        T.due("found(-1, 0)", x.found(-1, 0), -2);
    }

    private static void runs(HundredBoxes x, int plan, int found, int looks, int home) {
        T.due("run(" + plan + ", 0)", x.run(plan, 0), found);
        T.due("run(" + plan + ", 1)", x.run(plan, 1), looks);
        T.due("run(" + plan + ", 2)", x.run(plan, 2), home);
    }

    private static void run() {
        HundredBoxes x = withAllKinds(1);
        Dues.lay(x, 1, 2, 3, 0, 4);
        x.looks(4);
        runs(x, 0, 4, 14, 0);
        runs(x, 1, 4, 19, 0);
        runs(x, 2, 5, 17, 5);
        runs(x, 3, 5, 13, 5);
        runs(x, 4, 4, 17, 0);
        runs(x, 5, 5, 15, 5);
        x.force(Dues.text(x, "home found=men;some looks-found*3;bet 0;"));
        runs(x, 0, 4, 14, 2);
        runs(x, 1, 4, 19, 5);
        runs(x, 2, 5, 17, 5);
        x.looks(12);
        Dues.lay(x, -1, -1, -1);
        for (int plan = 0; plan < 6; plan++) {
            runs(x, plan, 0, 9, 3);
        }
        T.due("found, nothing lies there", x.found(2, 0), 0);
        Dues.lay(x, -1, 0, -1);
        runs(x, 2, 1, 8, 3);
        T.due("found(2, 0), as a PLAN", x.found(2, 0), 2);
        x.boxes(1);
        for (int plan = 0; plan < 6; plan++) {
            runs(x, plan, 1, 1, 1);
        }
        T.due("run(0, -1)", x.run(0, -1), -2);
        T.due("run(0, 3)", x.run(0, 3), -2);
        T.due("run(6, 0)", x.run(6, 0), -2);
        T.due("run(-1, 0)", x.run(-1, 0), -2);
    }

    private static void plansBySheet() {
        HundredBoxes x = new HundredBoxes();
        T.due("plans(-1, 0, 0, 0)", x.plans(-1, 0, 0, 0), -2);
        T.due("plans(4, 0, 0, 0)", x.plans(4, 0, 0, 0), -2);
        T.due("plans(0, -1, 0, 0)", x.plans(0, -1, 0, 0), -2);
        T.due("plans(0, 3, 0, 0)", x.plans(0, 3, 0, 0), -2);
        T.due("plans(0, 0, 0, -1)", x.plans(0, 0, 0, -1), -2);
        T.due("plans(0, 0, 0, 9)", x.plans(0, 0, 0, 9), -2);
        T.due("plans(0, 0, 0, 0)", x.plans(0, 0, 0, 0), -11);
        Dues.row(x, 0, 0, 1, 2, 3, 4, 5);
        T.due("plans(0, 1, 0, 1)", x.plans(0, 1, 0, 1), -13);
        T.due("plans(0, 2, -1, 0)", x.plans(0, 2, -1, 0), -13);
        T.due("plans(0, 0, -1, 1)", x.plans(0, 0, -1, 1), -12);
        T.due("plans(0, 0, 2147483647, 1)", x.plans(0, 0, Integer.MAX_VALUE, 1), -12);
        T.due("plans(0, 0, -2147483648, 8)", x.plans(0, 0, Integer.MIN_VALUE, 8), -12);
        T.due("plans(0, 0, 4, 1)", x.plans(0, 0, 4, 1), -12);
        T.due("plans(0, 0, 2, 0)", x.plans(0, 0, 2, 0), 0);
        T.due("count(2), none came", x.count(2), 0);
        T.due("plans(0, 0, 0, 3)", x.plans(0, 0, 0, 3), -12);
        T.due("count(2), two came", x.count(2), 2);
        T.due("taken(0, 1)", x.taken(0, 1), 2);
        T.due("taken(1, 3)", x.taken(1, 3), 4);
        T.due("plans(0, 0, 1, 2)", x.plans(0, 0, 1, 2), 2);
        T.due("taken(2, 2)", x.taken(2, 2), 3);
        T.due("taken(3, 4)", x.taken(3, 4), 5);
        Dues.row(x, 1, 2, 6, 0, 0, 12, -1, 0, 0, -1, 0, 11, 1, 1, 2, 2, 3, 3);
        T.due("plans of ints", x.plans(1, 2, 0, 8), 4);
        T.due("plans, all are full", x.plans(1, 2, 8, 4), 0);
        T.due("plans, full and outside", x.plans(1, 2, 8, 5), -12);
        T.due("count(2), full", x.count(2), 8);
        Dues.row(x, 2, 1, 65536, 65537);
        T.due("taken(4, 0)", x.taken(4, 0), 11);
        T.due("taken(7, 3)", x.taken(7, 3), 3);
    }

    private static void taken() {
        HundredBoxes x = withAllKinds(7);
        boolean[][] under = {
            {true, false, false, false, false, false},
            {true, true, false, false, false, false},
            {true, false, true, false, false, false},
            {true, false, true, true, false, false},
            {true, false, true, false, true, false},
            {true, true, false, false, false, true},
        };
        for (int plan = 0; plan < 6; plan++) {
            for (int k = 0; k < 6; k++) {
                T.due("taken(" + plan + ", " + k + ")", x.taken(plan, k), under[plan][k] ? 7 : -13);
            }
        }
        T.due("taken(0, -1)", x.taken(0, -1), -2);
        T.due("taken(0, 6)", x.taken(0, 6), -2);
        T.due("taken(9, 6)", x.taken(9, 6), -2);
        T.due("taken(6, 0)", x.taken(6, 0), -11);
        T.due("taken(-1, 0)", x.taken(-1, 0), -11);
    }
}
