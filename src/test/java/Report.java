/** All that can be seen of an object, as a text; no test itself. Asking it uses the object up. */
final class Report {
    private final HundredBoxes x;
    private final StringBuilder told = new StringBuilder();

    private Report(HundredBoxes x) {
        this.x = x;
    }

    static String of(HundredBoxes x) {
        Report report = new Report(x);
        report.laying();
        report.plans();
        report.texts();
        report.tape();
        report.image();
        for (int sheet = 0; sheet < 3; sheet++) {
            report.sheet(sheet);
        }
        return report.told.toString();
    }

    private void tell(String name, long value) {
        told.append(name).append(value).append(' ');
    }

    private void laying() {
        for (int what = 0; what < 6; what++) {
            tell("count", x.count(what));
        }
        for (int box = 0; box < x.count(0); box++) {
            tell("", x.box(box, 0));
        }
        tell("bet", x.bet());
    }

    private void plans() {
        for (int plan = 0; plan <= 8; plan++) {
            told.append("plan ");
            for (int kind = 0; kind < 6; kind++) {
                tell("", x.taken(plan, kind));
            }
        }
    }

    private void texts() {
        int rule = x.count(5);
        for (int text = 0; text < x.count(3); text++) {
            x.force(text);
            tell("bet by a text ", x.bet());
            tell("run by a text ", x.run(0, 2));
        }
        tell("rule ", x.force(rule));
    }

    private void tape() {
        int text = x.text();
        tell("tape as a text ", text);
        if (text >= 0) {
            int rule = x.force(text);
            tell("bet ", x.bet());
            x.force(rule);
        }
    }

    private void image() {
        tell("image ", x.back());
        laying();
    }

    /** Sort, size and numbers, each seen by a copy of it alone in sheet 3. */
    private void sheet(int sheet) {
        told.append("sheet ");
        int found = -1;
        for (int sort = 0; sort < 3; sort++) {
            int answer = x.plans(sheet, sort, 0, 0);
            tell("", answer);
            found = answer == 0 ? sort : found;
        }
        if (sheet == 0) {
            tell("sheet 3 ", x.cell(3, 0, 0));
        }
        int low = 0;
        int high = found < 0 ? 0 : 40;
        while (low < high) {
            int middle = (low + high + 1) / 2;
            if (x.copy(sheet, 0, sheet, 0, middle) == middle) {
                low = middle;
            } else {
                high = middle - 1;
            }
        }
        tell("size ", low);
        x.boxes(1);
        for (int i = 0; i < low; i++) {
            x.sheet(3, found, 1);
            x.copy(sheet, i, 3, 0, 1);
            tell("", x.order(3, 1));
            tell("", x.lay(3));
        }
    }
}
