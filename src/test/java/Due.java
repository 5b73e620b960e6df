/** Counts the calls whose answer is not the one that is due, and makes objects for the tests. */
final class Due {
    static final int NONE = -1000000, BAD = -1000001, STATE = -1000002, FULL = -1000003;
    static final int NULL = -1000011, PLACE = -1000012, KIND = -1000013, SIZE = -1000014, STORE = -1000015;

    private static int wrong = 0;
    private static int asked = 0;

    private Due() {
    }

    static void due(String call, long got, long want) {
        asked++;
        if (got != want) {
            wrong++;
            System.out.println(call + " answered " + got + ", due is " + want);
        }
    }

    static void feed(EarTrumpets x, String text) {
        for (int i = 0; i < text.length(); i++) {
            x.feed(text.charAt(i));
        }
    }

    static int read(EarTrumpets x, String text) {
        feed(x, text);
        return x.house();
    }

    static EarTrumpets house(String text) {
        EarTrumpets x = new EarTrumpets();
        int pipes = read(x, text);
        if (pipes < 1) {
            due("house of " + text, pipes, 1);
        }
        return x;
    }

    /** A ROW of ints with told ITEMS. */
    static void lay(EarTrumpets x, int row, int... items) {
        x.row(row, 2, items.length);
        for (int i = 0; i < items.length; i++) {
            x.set(row, i, items[i]);
        }
    }

    /** All that can be seen of a HOUSE, and how many ROWS and bytes there are, as a text. */
    static String look(EarTrumpets x) {
        StringBuilder all = new StringBuilder();
        for (int what : new int[] {0, 1, 2, 3, 4, 5, 7}) {
            all.append(x.count(what)).append(' ');
        }
        for (int p = 0; p < 7; p++) {
            all.append("| pipe ").append(x.kind(p)).append(' ');
            for (int what = 0; what < 6; what++) {
                all.append(x.pipe(p, what)).append(' ');
            }
            for (int place = 0; place < 4; place++) {
                all.append(x.inside(p, place)).append(' ');
            }
        }
        for (int h = 0; h < 6; h++) {
            all.append("| horn ");
            for (int what = 0; what < 5; what++) {
                all.append(x.horn(h, what)).append(' ');
            }
        }
        return all.toString();
    }

    static void same(String what, String got, String want) {
        asked++;
        if (!got.equals(want)) {
            wrong++;
            System.out.println(what + " is " + got + ", due is " + want);
        }
    }

    static void end() {
        System.out.println(wrong == 0 ? asked + " answers are as due" : wrong + " answers are not as due");
        if (wrong != 0) {
            System.exit(1);
        }
    }
}
