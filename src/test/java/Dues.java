/** Counts the answers that are not as due; no test itself. */
final class Dues {
    static final long NO = -4611686018427387904L;
    private int wrong = 0;
    private String about = "";

    /** The sentence of the document that the dues from here on test. */
    void about(String sentence) {
        about = "[" + sentence + "] ";
    }

    void due(String call, long got, long want) {
        if (got != want) {
            wrong++;
            System.out.println(about + call + " answered " + got + ", due is " + want);
        }
    }

    void dueText(String call, String got, String want) {
        if (!got.equals(want)) {
            wrong++;
            System.out.println(about + call + ":\n  is     " + got + "\n  due is " + want);
        }
    }

    void end() {
        System.out.println(wrong == 0 ? "all answers are as due" : wrong + " answers are not as due");
        if (wrong != 0) {
            System.exit(1);
        }
    }

    /** A sheet of a sort with these numbers. */
    static void row(HundredBoxes x, int sheet, int sort, int... numbers) {
        x.sheet(sheet, sort, numbers.length);
        for (int i = 0; i < numbers.length; i++) {
            x.cell(sheet, i, numbers[i]);
        }
    }

    /** Lays these numbers, by sheet 3. */
    static void lay(HundredBoxes x, int... numbers) {
        x.boxes(numbers.length);
        row(x, 3, 2, numbers);
        x.lay(3);
    }

    /** A new object in which these numbers lie. */
    static HundredBoxes laid(int... numbers) {
        HundredBoxes x = new HundredBoxes();
        lay(x, numbers);
        return x;
    }

    /** Feeds a text, up to eight bytes at once. */
    static int feed(HundredBoxes x, String text) {
        int last = 0;
        for (int from = 0; from < text.length(); from += 8) {
            int n = Math.min(8, text.length() - from);
            long bytes = 0;
            for (int i = n - 1; i >= 0; i--) {
                bytes = bytes << 8 | text.charAt(from + i) & 255;
            }
            last = x.feed(n, bytes);
        }
        return last;
    }

    /** What text() answers to a text. */
    static int text(HundredBoxes x, String text) {
        feed(x, text);
        return x.text();
    }
}
