/** Promises 17 to 22: odds over all layings. */
public final class AllLayingsTest {
    private static final Dues T = new Dues();

    public static void main(String[] args) {
        closed();
        winsAndMean();
        worst();
        draws();
        costs();
        refusals();
        kept();
        T.end();
    }

    private static void closed() {
        HundredBoxes x = new HundredBoxes();
        long[][] want = {{0, 1, 1}, {0, 1, 2, 2}, {0, 1, 4, 6}, {0, 1, 10, 18, 24}, {0, 1, 26, 66, 96, 120}};
        for (int n = 1; n <= 5; n++) {
            for (int most = 0; most < want[n - 1].length; most++) {
                T.due("closed(" + n + ", " + most + ")", x.closed(n, most), want[n - 1][most]);
            }
        }
        T.due("closed(12, 11)", x.closed(12, 11), 479001600L - 39916800L);
        T.due("closed(12, 2)", x.closed(12, 2), 140152);
        T.due("closed(1, 12)", x.closed(1, 12), 1);
        T.due("closed(0, 1)", x.closed(0, 1), Dues.NO);
        T.due("closed(-1, 1)", x.closed(-1, 1), Dues.NO);
        T.due("closed(13, 1)", x.closed(13, 1), Dues.NO);
        T.due("closed(5, -1)", x.closed(5, -1), Dues.NO);
        T.due("closed(5, 13)", x.closed(5, 13), Dues.NO);
    }

    private static void winsAndMean() {
        HundredBoxes x = new HundredBoxes();
        x.plan(2, 0);
        x.plan(1, 0);
        x.plan(0, 0);
        // a ring wins in as many as have no longer ring than looks
        for (int n = 1; n <= 7; n++) {
            x.boxes(n);
            for (int looks = 1; looks <= n + 1; looks++) {
                x.looks(looks);
                T.due("wins(0, 0) " + n + ", " + looks, x.wins(0, 0), x.closed(n, looks));
            }
            x.looks(n);
            T.due("wins(1, 0), all looks", x.wins(1, 0), x.wins(1, 1));
        }
        T.due("wins(0, 1)", x.wins(0, 1), 5040);
        x.boxes(6);
        x.looks(3);
        T.due("wins(0, 0) of 6", x.wins(0, 0), 276);
        T.due("mean(0, 0) of 6", x.mean(0, 0), 23);
        T.due("mean(0, 1) of 6", x.mean(0, 1), 10);
        T.due("mean(2, 0), none", x.mean(2, 0), 0);
        T.due("mean(2, 1), none", x.mean(2, 1), 1);
        // each guess finds in half of all layings
        x.force(Dues.text(x, "home 0;some found;bet 0;"));
        T.due("mean(1, 0) of found", x.mean(1, 0), 3);
        T.due("mean(1, 1) of found", x.mean(1, 1), 1);
        T.due("wins(1, 0) of found", x.wins(1, 0), 20);
        x.force(Dues.text(x, "home 0;some 9;bet 0;"));
        T.due("wins(2, 0) by some", x.wins(2, 0), 720);
        x.force(Dues.text(x, "home rings=6;some rings=1;bet 0;"));
        T.due("wins(2, 0) by rings", x.wins(2, 0), 1);
        T.due("mean(2, 0) by rings", x.mean(2, 0), 7);
        T.due("mean(2, 1) by rings", x.mean(2, 1), 40);
    }

    private static void worst() {
        HundredBoxes x = new HundredBoxes();
        x.plan(2, 0);
        x.plan(0, 0);
        x.boxes(4);
        x.looks(4);
        T.due("worst(0, 0), all looks", x.worst(0, 0), 4);
        T.due("worst(0, 1), all looks", x.worst(0, 1), 1234);
        x.looks(3);
        T.due("worst(0, 0)", x.worst(0, 0), 0);
        T.due("worst(0, 1)", x.worst(0, 1), 2341);
        x.force(Dues.text(x, "home 0;some rings;bet 0;"));
        T.due("worst(1, 0) by rings", x.worst(1, 0), 1);
        T.due("worst(1, 1) by rings", x.worst(1, 1), 2341);
        x.force(Dues.text(x, "home 0;some 3-rings;bet 0;"));
        T.due("worst(1, 0) by few rings", x.worst(1, 0), 0);
        T.due("worst(1, 1) by few rings", x.worst(1, 1), 1234);
        x.boxes(7);
        x.force(Dues.text(x, "home 0;some 7-longest;bet 0;"));
        T.due("worst(1, 1) of 7", x.worst(1, 1), 2345671);
        x.force(Dues.text(x, "home 0;some longest;bet 0;"));
        T.due("worst(1, 0) of 7", x.worst(1, 0), 1);
        T.due("worst(1, 1) of 7", x.worst(1, 1), 1234567);
    }

    private static void draws() {
        HundredBoxes x = new HundredBoxes();
        x.boxes(12);
        x.looks(12);
        T.due("draws(0), own", x.draws(0), 12);
        x.looks(1);
        T.due("draws(0), one look", x.draws(0), 1);
        x.looks(6);
        T.due("draws(0), six looks", x.draws(0), 8);
        x.boxes(7);
        x.looks(7);
        T.due("draws(1), all looks", x.draws(1), 7);
        x.looks(3);
        T.due("draws(1), three looks", x.draws(1), 0);
        x.boxes(3);
        x.looks(2);
        // 1 2 3 is met by the draw 0 alone, 2 1 3 by all
        T.due("draws(0) of 3", x.draws(0), 1);
        T.due("draws(1) of 3", x.draws(1), 1);
        x.swap(0, 1);
        T.due("draws(0) of 3, changed", x.draws(0), 3);
        x.empty(0);
        T.due("draws(0), missing", x.draws(0), 0);
        T.due("draws(1), missing does not matter", x.draws(1), 1);
        T.due("draws(-1)", x.draws(-1), -2);
        T.due("draws(2)", x.draws(2), -2);
    }

    private static void costs() {
        HundredBoxes x = new HundredBoxes();
        x.boxes(4);
        x.looks(2);
        x.plan(2, 5);
        x.plan(4, 0);
        x.plan(4, 2);
        x.plan(4, 1);
        x.plan(0, 0);
        T.due("costs of a ring", x.costs(0), 0);
        T.due("costs of no slip", x.costs(1), 0);
        T.due("costs of a slip behind all", x.costs(2), 0);
        T.due("costs of a slip", x.costs(3), 32);
        T.due("costs of a plan", x.costs(4), 40);
        // each man finds his in half of all layings, by a ring and by the same two boxes
        x.force(Dues.text(x, "home 0;some found;bet 0;"));
        T.due("costs of found", x.costs(4), 0);
        x.force(Dues.text(x, "home 0;some men-longest;bet 0;"));
        T.due("costs where none matters", x.costs(4), 0);
        x.force(Dues.text(x, "home not found=men;some 0;bet 0;"));
        T.due("costs below 0", x.costs(4), -40);
    }

    private static void refusals() {
        HundredBoxes x = new HundredBoxes();
        x.plan(2, 0);
        for (int plan : new int[] {-1, 1, 8}) {
            T.due("wins of none such", x.wins(plan, 0), Dues.NO);
            T.due("mean of none such", x.mean(plan, 0), Dues.NO);
            T.due("costs of none such", x.costs(plan), Dues.NO);
            T.due("worst of none such", x.worst(plan, 0), -2);
        }
        for (int part : new int[] {-1, 2}) {
            T.due("wins, part " + part, x.wins(0, part), Dues.NO);
            T.due("mean, part " + part, x.mean(0, part), Dues.NO);
            T.due("worst, what " + part, x.worst(0, part), -2);
        }
        x.boxes(8);
        for (int part = 0; part < 2; part++) {
            T.due("wins of 8", x.wins(0, part), Dues.NO);
            T.due("mean of 8", x.mean(0, part), Dues.NO);
            T.due("worst of 8", x.worst(0, part), -3);
        }
        T.due("costs of 8", x.costs(0), Dues.NO);
        T.due("draws(1) of 8", x.draws(1), -3);
        T.due("draws(2) of 8", x.draws(2), -2);
        T.due("worst(0, 2) of 8", x.worst(0, 2), -2);
        T.due("worst(1, 0) of 8", x.worst(1, 0), -2);
        T.due("draws(0) of 8", x.draws(0), 2);
    }

    /** What was worked out before must not be answered where n, looks or the rule are others. */
    private static void kept() {
        HundredBoxes x = new HundredBoxes();
        x.plan(2, 0);
        x.boxes(4);
        x.looks(2);
        int all = Dues.text(x, "home 1;some 0;bet 0;");
        for (int i = 0; i < 2; i++) {
            T.due("wins", x.wins(0, 0), 10);
            T.due("draws(1)", x.draws(1), 1);
            x.looks(3);
            T.due("wins by 3 looks", x.wins(0, 0), 18);
            x.looks(2);
            x.boxes(5);
            T.due("wins of 5", x.wins(0, 0), 26);
            T.due("draws(1) of 5", x.draws(1), 0);
            x.boxes(4);
            x.force(all);
            T.due("wins by another rule", x.wins(0, 0), 24);
            T.due("draws(1) by another rule", x.draws(1), 4);
            x.force(0);
            Dues.lay(x, 1, 2, 3, 0);
            T.due("wins in another laying", x.wins(0, 0), 10);
            T.due("the laying stays", x.box(0, 0), 1);
        }
    }
}
