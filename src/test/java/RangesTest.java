/**
 * "BAD (a number is not as told; there is no such thing)": of each number of each call the last that is as told on
 * either side, and the first that is not, in worlds of few and of many lands and goods.
 */
public final class RangesTest {
    private static final Due DUE = new Due();
    private static final int MIN = Integer.MIN_VALUE;
    private static final int MAX = Integer.MAX_VALUE;
    private static final String[] WORLDS = {
        "good 5;land 7 3;",
        "good 1;good 3;land 10 1 2;land 5 4 1;",
        "good 3;good 5;good 2;land 20 3 7 2;land 35 5 4 6;land 8 2 9 9;",
        "good 3;good 5;good 2;good 7;good 1;good 20;land 20 3 7 2 9 4 1;land 35 5 4 6 8 1 2;land 8 2 9 9 3 5 3;"};

    /** A call by its numbers. */
    private interface Call {
        long of(LandGoods x, int[] n);
    }

    /** The least and the greatest number that is as told, and one within that goes with the others. */
    private record Range(int least, int greatest, int plain) { }

    private static Range range(int least, int greatest) {
        return new Range(least, greatest, least);
    }

    public static void main(String[] args) {
        for (String text : WORLDS) {
            LandGoods x = Due.worldOf(text);
            int lands = (int) x.count(1);
            int goods = (int) x.count(2);
            worlds(text, range(0, lands - 1), range(0, goods - 1));
            landsBesideLands(text, lands, range(0, lands - 1), range(0, goods - 1));
            asked(text, range(0, goods - 1));
            rows(text);
        }
        nothingIsThereWithoutAWorld();
        DUE.end("RangesTest");
    }

    /** Each number in turn at its bounds and beyond, the others being plain. */
    private static void bounds(String name, String text, Call call, Range... ranges) {
        for (int at = 0; at < ranges.length; at++) {
            Range r = ranges[at];
            for (int v : new int[] {r.least, r.greatest}) {
                LandGoods x = ready(text);
                int[] n = plain(ranges, at, v);
                DUE.is(name + java.util.Arrays.toString(n) + " is as told, of '" + text + "'",
                        call.of(x, n) == Due.BAD ? 1 : 0, 0);
            }
            for (int v : new int[] {MIN, r.least - 1, r.greatest + 1, MAX}) {
                if (v >= r.least && v <= r.greatest) {
                    continue;
                }
                LandGoods x = ready(text);
                int[] n = plain(ranges, at, v);
                DUE.is(name + java.util.Arrays.toString(n) + " of '" + text + "'", call.of(x, n), Due.BAD);
            }
        }
    }

    private static int[] plain(Range[] ranges, int at, int v) {
        int[] n = new int[ranges.length];
        for (int i = 0; i < n.length; i++) {
            n[i] = i == at ? v : ranges[i].plain;
        }
        return n;
    }

    /** The world, and rows that judge() and more() can read in all of them. */
    private static LandGoods ready(String text) {
        LandGoods x = Due.worldOf(text);
        for (int row = 0; row < 8; row++) {
            Due.fill(x, row, 1, 1, 1, 1, 1, 1);
        }
        return x;
    }

    private static void rows(String text) {
        Range row = range(0, 7);
        Range any = new Range(MIN, MAX, 0);
        // Below 0 a number of ITEMS is not BAD, but of the finding SIZE.
        bounds("2: row", text, (x, n) -> x.row(n[0], n[1], n[2]), row, range(0, 2), new Range(MIN, 40, 0));
        // A place is never BAD, a value is as it likes.
        bounds("3: set", text, (x, n) -> x.set(n[0], n[1], n[2]), row, any, any);
        bounds("4: copy", text, (x, n) -> x.copy(n[0], n[1], n[2], n[3], n[4]), row, any, row, any, any);
        bounds("5: drop", text, (x, n) -> x.drop(n[0]), row);
        bounds("13: judge", text, (x, n) -> x.judge(n[0], n[1]), row, any);
        bounds("15: more", text, (x, n) -> x.more(n[0], n[1]), row, any);
    }

    private static void worlds(String text, Range land, Range good) {
        bounds("6: feed", text, (x, n) -> x.feed(7, n[0]), range(1, 8));
        bounds("9: told", text, (x, n) -> x.told(n[0], n[1], n[2]), land, good, range(0, 2));
        bounds("10: wage", text, (x, n) -> x.wage(n[0], n[1]), land, range(0, 1));
        bounds("11: price", text, (x, n) -> x.price(n[0], n[1]), good, range(0, 2));
        bounds("12: gain", text, (x, n) -> x.gain(n[0], n[1], n[2]), land, good, range(0, 1));
    }

    private static void landsBesideLands(String text, int lands, Range land, Range good) {
        bounds("16: stays", text, (x, n) -> x.stays(n[0], n[1], n[2]), land, good, range(0, 900));
        bounds("19: edge", text, (x, n) -> x.edge(n[0], n[1]), land, good);
        bounds("20: move", text, (x, n) -> x.move(n[0]), range(1, 5));
        bounds("18: on", text, (x, n) -> x.on(n[0]), land);
        bounds("18: on, behind a move()", text, (x, n) -> x.move(1) < 0 ? 0 : x.on(n[0]), land);
        for (int a = 0; a < lands; a++) {
            LandGoods x = Due.worldOf(text);
            DUE.is("14: chain of a LAND and itself, " + a, x.chain(a, a, 0), Due.BAD);
            DUE.is("17: learn of a LAND by itself, " + a, x.learn(a, a, 0), Due.BAD);
        }
        for (int b = 0; b < lands && lands > 1; b++) {
            int there = b;
            int another = b == 0 ? 1 : 0;
            onlySuchLands("14: chain", text, lands, there, (x, n) -> x.chain(n[0], n[1], 0));
            onlySuchLands("17: learn", text, lands, there, (x, n) -> x.learn(n[0], n[1], 0));
            bounds("14: chain, place", text, (x, n) -> x.chain(another, there, n[0]), range(-1, MAX));
            bounds("17: learn, good", text, (x, n) -> x.learn(another, there, n[0]), good);
        }
    }

    /** Two numbers of LANDS, the one being a LAND that there is: on either side. */
    private static void onlySuchLands(String name, String text, int lands, int there, Call call) {
        for (int v : new int[] {MIN, -1, 0, lands - 1, lands, MAX}) {
            boolean fine = v >= 0 && v < lands && v != there;
            for (int[] n : new int[][] {{v, there}, {there, v}}) {
                DUE.is(name + java.util.Arrays.toString(n) + " is BAD, of '" + text + "'",
                        call.of(Due.worldOf(text), n) == Due.BAD ? 1 : 0, fine ? 0 : 1);
            }
        }
    }

    private static void asked(String text, Range good) {
        bounds("21: kind", text, (x, n) -> x.kind(n[0]), good);
        bounds("22: as", text, (x, n) -> x.as(n[0], n[1]), good, range(0, 5));
        bounds("23: ask", text, (x, n) -> x.ask(n[0], n[1]), good, range(0, 1));
        bounds("25: count", text, (x, n) -> x.count(n[0]), range(0, 5));
    }

    /** "No WORLD": there is no LAND and no GOOD, so what asks for one is BAD; what asks for none is as told. */
    private static void nothingIsThereWithoutAWorld() {
        LandGoods x = new LandGoods();
        DUE.is("9: told without a world", x.told(0, 0, 1), Due.BAD);
        DUE.is("10: wage without a world", x.wage(0, 0), Due.BAD);
        DUE.is("11: price without a world", x.price(0, 0), Due.BAD);
        DUE.is("12: gain without a world", x.gain(0, 0, 0), Due.BAD);
        DUE.is("14: chain without a world", x.chain(0, 1, 0), Due.BAD);
        DUE.is("14: the cut without a world", x.chain(0, 1, -1), Due.BAD);
        DUE.is("16: stays without a world", x.stays(0, 0, 0), Due.BAD);
        DUE.is("17: learn without a world", x.learn(0, 1, 0), Due.BAD);
        DUE.is("18: on without a world", x.on(0), Due.BAD);
        DUE.is("19: edge without a world", x.edge(0, 0), Due.BAD);
        DUE.is("21: kind without a world", x.kind(0), Due.BAD);
        DUE.is("22: as without a world", x.as(0, 0), Due.BAD);
        DUE.is("23: ask without a world", x.ask(0, 0), Due.BAD);
        DUE.is("13: judge without a world", x.judge(0, 0), Due.STATE);
        DUE.is("15: more without a world", x.more(0, 0), Due.STATE);
        DUE.is("20: move without a world", x.move(1), Due.STATE);
        for (int what = 0; what <= 5; what++) {
            DUE.is("25: count(" + what + ") without a world", x.count(what), 0);
        }
    }
}
