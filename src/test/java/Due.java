/** What the tests share: counting answers that are not as due, and feeding a text. */
final class Due {
    static final long BAD = LandGoods.NOT - 1;
    static final long STATE = LandGoods.NOT - 2;
    static final long FULL = LandGoods.NOT - 3;
    static final long NULL = LandGoods.NOT - 11;
    static final long PLACE = LandGoods.NOT - 12;
    static final long KIND = LandGoods.NOT - 13;
    static final long SIZE = LandGoods.NOT - 14;
    static final long STORE = LandGoods.NOT - 15;

    private int wrong = 0;

    void is(String what, long got, long want) {
        if (got != want) {
            wrong++;
            System.out.println(what + " answered " + got + ", due is " + want);
        }
    }

    /** Ends the test, with exit code 1 if an answer was wrong. */
    void end(String test) {
        System.out.println(test + ": " + (wrong == 0 ? "all answers are as due" : wrong + " answers are not as due"));
        if (wrong != 0) {
            System.exit(1);
        }
    }

    static void feedText(LandGoods x, String text) {
        for (int from = 0; from < text.length(); from += 8) {
            int n = Math.min(8, text.length() - from);
            x.feed(bytesOf(text, from, n), n);
        }
    }

    static long bytesOf(String text, int from, int n) {
        long w = 0;
        for (int i = 0; i < n; i++) {
            w = (w << 8) | (text.charAt(from + i) & 255);
        }
        return w;
    }

    static LandGoods worldOf(String text) {
        LandGoods x = new LandGoods();
        feedText(x, text);
        if (x.world() < 1) {
            throw new IllegalStateException("the test's text has a fault: " + text);
        }
        return x;
    }

    /** A row of ints with these items, in place of what is there. */
    static void fill(LandGoods x, int row, int... items) {
        x.row(row, 2, items.length);
        for (int i = 0; i < items.length; i++) {
            x.set(row, i, items[i]);
        }
    }
}
