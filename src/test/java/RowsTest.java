/** Promises 1 to 5 and 26: a new object, rows, status. */
public final class RowsTest {
    private static final Due DUE = new Due();

    public static void main(String[] args) {
        aNewObject();
        row();
        rowsAreMissingAtFirst();
        aRowHasAsManyItemsAsTold();
        itemsAreZeroAtFirst();
        set();
        setKeepsTheLowestBits();
        copy();
        copyEnds();
        copyLanes();
        copyLeavesTheRest();
        drop();
        status();
        statusOfEachCall();
        DUE.end("RowsTest");
    }

    private static void aNewObject() {
        LandGoods x = new LandGoods();
        for (int what = 0; what <= 5; what++) {
            DUE.is("1: count(" + what + ") when new", x.count(what), 0);
        }
        DUE.is("1: fault() when new", x.fault(), 0);
        DUE.is("1: status() when new", x.status(), 0);
        DUE.is("1: trace(0) when new", x.trace(0), LandGoods.NONE);
        DUE.is("1: move(1) when new", x.move(1), Due.STATE);
        DUE.is("1: wage(0, 0) when new", x.wage(0, 0), Due.BAD);
    }

    private static void row() {
        LandGoods x = new LandGoods();
        DUE.is("2: row(0, 0, 0)", x.row(0, 0, 0), 0);
        DUE.is("2: row(7, 2, 40)", x.row(7, 2, 40), 40);
        DUE.is("2: row(8, 0, 1)", x.row(8, 0, 1), Due.BAD);
        DUE.is("2: row(-1, 0, 1)", x.row(-1, 0, 1), Due.BAD);
        DUE.is("2: row(1, -1, 1)", x.row(1, -1, 1), Due.BAD);
        DUE.is("2: row(1, 3, 1)", x.row(1, 3, 1), Due.BAD);
        DUE.is("2: row(1, 0, 41)", x.row(1, 0, 41), Due.BAD);
        DUE.is("2: row(1, 0, MAX)", x.row(1, 0, Integer.MAX_VALUE), Due.BAD);
        DUE.is("2: row(1, 0, -1)", x.row(1, 0, -1), Due.SIZE);
        DUE.is("2: row(1, 0, MIN)", x.row(1, 0, Integer.MIN_VALUE), Due.SIZE);
        DUE.is("2: row(1, 3, -1), BAD is the first", x.row(1, 3, -1), Due.BAD);
        DUE.is("2: rows", x.count(0), 2);
        x.set(7, 39, 5);
        DUE.is("2: row(7, 2, -1)", x.row(7, 2, -1), Due.SIZE);
        DUE.is("2: a found row changes nothing", x.copy(7, 39, 7, 0, 1), 1);
        DUE.is("2: row(7, 2, 40) in place", x.row(7, 2, 40), 40);
        Due.feedText(x, "good 1;land 1 1;");
        x.world();
        x.set(7, 0, 1);
        DUE.is("2: items are 0 at first, in place of old ones too", x.judge(7, 39), Due.BAD);
        DUE.is("2: a shorter row in place", x.row(7, 1, 3), 3);
        DUE.is("2: its end", x.set(7, 3, 0), Due.PLACE);
    }

    /** "ROWS 0 .. 7 are missing (at first)". */
    private static void rowsAreMissingAtFirst() {
        LandGoods x = Due.worldOf("good 1;land 1 1;");
        for (int row = 0; row <= 7; row++) {
            DUE.is("1: set in row " + row + " at first", x.set(row, 0, 1), Due.NULL);
            DUE.is("1: copy of row " + row + " at first", x.copy(row, 0, row, 0, 0), Due.NULL);
            DUE.is("1: drop of row " + row + " at first", x.drop(row), Due.NULL);
            DUE.is("1: judge of row " + row + " at first", x.judge(row, 0), Due.NULL);
            DUE.is("1: more of row " + row + " at first", x.more(row, 0), Due.NULL);
        }
        for (int row = 0; row <= 7; row++) {
            DUE.is("2: row(" + row + ", 0, 1)", x.row(row, 0, 1), 1);
            DUE.is("25: rows, " + row, x.count(0), row + 1);
            DUE.is("2: the next is missing still", x.drop(row + 1), row == 7 ? Due.BAD : Due.NULL);
        }
    }

    /** "0 to 40 ITEMS": the last place there is and the first there is not, for each number of them and each LANE. */
    private static void aRowHasAsManyItemsAsTold() {
        LandGoods x = new LandGoods();
        for (int n = 0; n <= 40; n++) {
            int lane = n % 3;
            DUE.is("2: row of " + n, x.row(6, lane, n), n);
            DUE.is("2: behind the last of " + n, x.set(6, n, 1), Due.PLACE);
            DUE.is("2: the last of " + n, x.set(6, n - 1, 1), n == 0 ? Due.PLACE : 1);
            DUE.is("2: ahead of the first of " + n, x.set(6, -1, 1), Due.PLACE);
            DUE.is("5: drop of " + n, x.drop(6), n);
        }
        for (int lane = 0; lane <= 2; lane++) {
            DUE.is("2: the most of lane " + lane, x.row(0, lane, 40), 40);
            DUE.is("2: more than that of lane " + lane, x.row(0, lane, 41), Due.BAD);
            DUE.is("2: none of lane " + lane, x.row(0, lane, 0), 0);
            DUE.is("2: fewer than none of lane " + lane, x.row(0, lane, -1), Due.SIZE);
        }
        DUE.is("2: a row in place of one is one row", x.count(0), 1);
    }

    /** "ITEMS, 0 at first": whatever stood there before; an item of 0 is no wage, one that was left would be one. */
    private static void itemsAreZeroAtFirst() {
        LandGoods x = Due.worldOf("good 1;land 1 1;");
        for (int way = 0; way < 3; way++) {
            x.row(0, 2, 40);
            for (int i = 0; i < 40; i++) {
                x.set(0, i, 5);
            }
            if (way == 1) {
                x.row(0, 1, 3);
            } else if (way == 2) {
                x.drop(0);
            }
            x.row(0, 2, 40);
            for (int i = 0; i < 40; i++) {
                DUE.is("2: item " + i + " is 0 at first, way " + way, x.judge(0, i), Due.BAD);
            }
        }
    }

    private static void set() {
        LandGoods x = new LandGoods();
        x.row(0, 0, 3);
        x.row(1, 1, 3);
        x.row(2, 2, 3);
        DUE.is("3: set a byte", x.set(0, 0, 127), 127);
        DUE.is("3: set a byte beyond", x.set(0, 1, 128), -128);
        DUE.is("3: set a byte of many bits", x.set(0, 2, 0x12345), 0x45);
        DUE.is("3: set a byte below", x.set(0, 2, -129), 127);
        DUE.is("3: set a short", x.set(1, 0, 32767), 32767);
        DUE.is("3: set a short beyond", x.set(1, 0, 32768), -32768);
        DUE.is("3: set a short of many bits", x.set(1, 0, 0x12345), 0x2345);
        DUE.is("3: set an int", x.set(2, 2, Integer.MIN_VALUE), Integer.MIN_VALUE);
        DUE.is("3: set beyond", x.set(2, 3, 1), Due.PLACE);
        DUE.is("3: set below", x.set(2, -1, 1), Due.PLACE);
        DUE.is("3: set in a missing row", x.set(3, 0, 1), Due.NULL);
        DUE.is("3: set in no row", x.set(8, 0, 1), Due.BAD);
        DUE.is("3: set in no row below", x.set(-1, 0, 1), Due.BAD);
    }

    /** "v, its lowest bits, as many as the LANE has": either side of each bound, and that it stays so. */
    private static void setKeepsTheLowestBits() {
        int[][] bytes = {{0, 0}, {1, 1}, {127, 127}, {128, -128}, {129, -127}, {255, -1}, {256, 0}, {257, 1}, {-1, -1},
            {-128, -128}, {-129, 127}, {-256, 0}, {32767, -1}, {65536, 0}, {Integer.MAX_VALUE, -1},
            {Integer.MIN_VALUE, 0}};
        int[][] shorts = {{0, 0}, {128, 128}, {256, 256}, {32767, 32767}, {32768, -32768}, {65535, -1}, {65536, 0},
            {65537, 1}, {-32768, -32768}, {-32769, 32767}, {Integer.MAX_VALUE, -1}, {Integer.MIN_VALUE, 0}};
        int[][] ints = {{0, 0}, {32768, 32768}, {65536, 65536}, {-32769, -32769},
            {Integer.MAX_VALUE, Integer.MAX_VALUE}, {Integer.MIN_VALUE, Integer.MIN_VALUE}};
        int[][][] lanes = {bytes, shorts, ints};
        LandGoods x = Due.worldOf("good 1;land 1 1;land 1 1;");
        for (int lane = 0; lane <= 2; lane++) {
            x.row(0, lane, 2);
            for (int[] pair : lanes[lane]) {
                DUE.is("3: set(.., " + pair[0] + ") in lane " + lane, x.set(0, 0, pair[0]), pair[1]);
            }
            // What is kept is what was answered: 5 and many higher bits is 5, but for ints.
            x.set(0, 0, 5 + (7 << 16));
            x.set(0, 1, 5);
            DUE.is("3: what is kept in lane " + lane, x.judge(0, 0), lane == 2 ? Due.BAD : 0);
        }
    }

    private static void copy() {
        LandGoods x = new LandGoods();
        Due.fill(x, 0, 1, 2, 3, 4);
        Due.fill(x, 1, 0, 0);
        DUE.is("4: copy over itself, up", x.copy(0, 0, 0, 1, 3), 3);
        itemsAre("4: up", x, 0, 1, 1, 2, 3);
        DUE.is("4: copy over itself, down", x.copy(0, 1, 0, 0, 3), 3);
        itemsAre("4: down", x, 0, 1, 2, 3, 3);
        DUE.is("4: copy to another", x.copy(0, 2, 1, 0, 2), 2);
        itemsAre("4: another", x, 1, 3, 3);
        DUE.is("4: copy none at the ends", x.copy(0, 4, 1, 2, 0), 0);
        DUE.is("4: copy none beyond", x.copy(0, 5, 1, 0, 0), Due.PLACE);
        DUE.is("4: copy none beyond there", x.copy(0, 0, 1, 3, 0), Due.PLACE);
        DUE.is("4: copy too many", x.copy(0, 3, 1, 0, 2), Due.PLACE);
        DUE.is("4: copy too many there", x.copy(0, 0, 1, 1, 2), Due.PLACE);
        DUE.is("4: copy fewer than none", x.copy(0, 0, 1, 0, -1), Due.PLACE);
        DUE.is("4: copy from below", x.copy(0, -1, 1, 0, 1), Due.PLACE);
        DUE.is("4: copy to below", x.copy(0, 0, 1, -1, 1), Due.PLACE);
        DUE.is("4: copy with a sum that wraps", x.copy(0, 1, 1, 1, Integer.MAX_VALUE), Due.PLACE);
        DUE.is("4: copy from a place that wraps", x.copy(0, Integer.MAX_VALUE, 1, 0, 1), Due.PLACE);
        x.row(2, 0, 4);
        DUE.is("4: copy between lanes, ahead of places", x.copy(0, -1, 2, 0, 1), Due.STORE);
        DUE.is("4: copy from a missing row", x.copy(3, 0, 0, 0, 1), Due.NULL);
        DUE.is("4: copy to a missing row", x.copy(0, 0, 3, 0, 1), Due.NULL);
        DUE.is("4: copy from no row", x.copy(8, 0, 0, 0, 1), Due.BAD);
        DUE.is("4: copy to no row", x.copy(3, 0, -1, 0, 1), Due.BAD);
        itemsAre("4: nothing is changed by these", x, 0, 1, 2, 3, 3);
        itemsAre("4: nor there", x, 1, 3, 3);
    }

    /** "PLACE (i, j, n below 0, or beyond an end)": of two rows of 5 and 3, each number on either side. */
    private static void copyEnds() {
        LandGoods x = new LandGoods();
        x.row(0, 1, 5);
        x.row(1, 1, 3);
        int[] numbers = {Integer.MIN_VALUE, -1, 0, 1, 2, 3, 4, 5, 6, Integer.MAX_VALUE - 1, Integer.MAX_VALUE};
        for (int i : numbers) {
            for (int n : new int[] {Integer.MIN_VALUE, -1, 0, 1, 2, 3, 4, Integer.MAX_VALUE}) {
                boolean from = i >= 0 && n >= 0 && (long) i + n <= 5;
                boolean to = i >= 0 && n >= 0 && (long) i + n <= 3;
                DUE.is("4: copy(0, " + i + ", 1, 0, " + n + ")", x.copy(0, i, 1, 0, n), from && n <= 3 ? n : Due.PLACE);
                DUE.is("4: copy(0, 0, 1, " + i + ", " + n + ")", x.copy(0, 0, 1, i, n), to ? n : Due.PLACE);
            }
        }
        x.row(2, 1, 0);
        DUE.is("4: none of an empty row", x.copy(2, 0, 2, 0, 0), 0);
        DUE.is("4: one of an empty row", x.copy(2, 0, 0, 0, 1), Due.PLACE);
        DUE.is("4: one to an empty row", x.copy(0, 0, 2, 0, 1), Due.PLACE);
        x.row(3, 1, 40);
        x.row(4, 1, 40);
        DUE.is("4: all of a full row", x.copy(3, 0, 4, 0, 40), 40);
        DUE.is("4: more than all of a full row", x.copy(3, 0, 4, 0, 41), Due.PLACE);
    }

    /** "STORE (ROWS of two LANES)": each LANE with each. */
    private static void copyLanes() {
        LandGoods x = new LandGoods();
        for (int lane = 0; lane <= 2; lane++) {
            x.row(lane, lane, 2);
            x.row(lane + 3, lane, 2);
        }
        for (int a = 0; a <= 2; a++) {
            for (int b = 0; b <= 2; b++) {
                DUE.is("4: from lane " + a + " to lane " + b, x.copy(a, 0, b + 3, 0, 2), a == b ? 2 : Due.STORE);
            }
        }
        x.row(0, 2, 2);
        DUE.is("4: a row anew has its new lane", x.copy(0, 0, 5, 0, 1), 1);
        DUE.is("4: and not its old one", x.copy(0, 0, 3, 0, 1), Due.STORE);
    }

    /** "n ITEMS of a from i on come to b from j on": no others change, and those of a stay. */
    private static void copyLeavesTheRest() {
        LandGoods x = new LandGoods();
        Due.fill(x, 0, 1, 2, 3, 4);
        Due.fill(x, 1, 4, 4, 4, 4);
        DUE.is("4: two into the middle", x.copy(0, 1, 1, 1, 2), 2);
        itemsAre("4: into the middle", x, 1, 4, 2, 3, 4);
        itemsAre("4: where they came from", x, 0, 1, 2, 3, 4);
        DUE.is("4: none", x.copy(0, 0, 1, 0, 0), 0);
        itemsAre("4: none came", x, 1, 4, 2, 3, 4);
    }

    /** No call tells an item, so it is laid beside each number: wages of two like lands are at rest only if alike. */
    private static void itemsAre(String what, LandGoods x, int row, int... items) {
        Due.feedText(x, "good 1;land 1 1;land 1 1;");
        x.world();
        for (int i = 0; i < items.length; i++) {
            for (int v = 1; v <= 4; v++) {
                Due.fill(x, 7, v, v);
                x.copy(row, i, 7, 0, 1);
                DUE.is(what + ": item " + i + " is " + v, x.judge(7, 0) == 0 ? 1 : 0, items[i] == v ? 1 : 0);
            }
        }
    }

    private static void drop() {
        LandGoods x = new LandGoods();
        x.row(0, 0, 5);
        x.row(1, 0, 0);
        DUE.is("5: drop(0)", x.drop(0), 5);
        DUE.is("5: drop(0) again", x.drop(0), Due.NULL);
        DUE.is("5: rows", x.count(0), 1);
        DUE.is("5: drop(1), an empty one", x.drop(1), 0);
        DUE.is("5: rows then", x.count(0), 0);
        DUE.is("5: drop(8)", x.drop(8), Due.BAD);
        DUE.is("5: drop(-1)", x.drop(-1), Due.BAD);
        x.row(0, 1, 2);
        DUE.is("5: anew, with 0", x.set(0, 1, 9), 9);
    }

    /** "Of the latest call with a ROW, or as()": each such call tells 0 behind a finding, no other one does. */
    private static void statusOfEachCall() {
        String text = "good 1;land 1 1;";
        for (int which = 0; which < 7; which++) {
            LandGoods x = Due.worldOf(text);
            Due.fill(x, 0, 1, 1);
            x.drop(7);
            DUE.is("26: NULL ahead of call " + which, x.status(), 1);
            DUE.is("26: call " + which + " is fine", rowCall(x, which) >= 0 ? 1 : 0, 1);
            DUE.is("26: status() behind call " + which, x.status(), 0);
        }
        LandGoods x = Due.worldOf(text);
        x.drop(7);
        Due.feedText(x, text);
        x.world();
        x.fault();
        x.told(0, 0, 0);
        x.wage(0, 0);
        x.price(0, 0);
        x.gain(0, 0, 0);
        x.chain(0, 1, 0);
        x.stays(0, 0, 0);
        x.learn(0, 0, 0);
        x.move(1);
        x.on(0);
        x.edge(0, 0);
        x.kind(0);
        x.ask(0, 0);
        x.trace(0);
        x.count(0);
        x.status();
        DUE.is("26: no other call counts", x.status(), 1);
        for (int n = 0; n < 51; n++) {
            x.feed(0, 8);
        }
        DUE.is("26: FULL does not count", x.status(), 1);
    }

    private static long rowCall(LandGoods x, int which) {
        switch (which) {
            case 0:
                return x.row(1, 0, 0);
            case 1:
                return x.set(0, 0, 1);
            case 2:
                return x.copy(0, 0, 0, 1, 1);
            case 3:
                return x.drop(0);
            case 4:
                return x.judge(0, 0);
            case 5:
                return x.more(0, 0);
            default:
                return x.as(0, 4);
        }
    }

    private static void status() {
        LandGoods x = new LandGoods();
        x.row(0, 0, -1);
        DUE.is("26: SIZE", x.status(), 4);
        x.row(9, 0, 1);
        DUE.is("26: BAD does not count", x.status(), 4);
        x.judge(0, 0);
        x.more(0, 0);
        DUE.is("26: STATE does not count", x.status(), 4);
        x.drop(0);
        DUE.is("26: NULL", x.status(), 1);
        x.row(0, 0, 2);
        DUE.is("26: none", x.status(), 0);
        x.set(0, 2, 1);
        DUE.is("26: PLACE", x.status(), 2);
        x.row(1, 1, 2);
        x.copy(0, 0, 1, 0, 1);
        DUE.is("26: STORE", x.status(), 5);
        Due.feedText(x, "good 1;land 1 1;");
        x.world();
        x.kind(0);
        x.wage(0, 0);
        DUE.is("26: calls without a ROW do not count", x.status(), 5);
        x.as(0, 2);
        DUE.is("26: KIND", x.status(), 3);
        x.as(1, 0);
        DUE.is("26: as() that is BAD does not count", x.status(), 3);
        x.judge(0, 0);
        DUE.is("26: judge() of a BAD ITEM does not count", x.status(), 3);
        x.more(0, 0);
        DUE.is("26: more() of a BAD ITEM does not count", x.status(), 3);
        x.as(0, 1);
        DUE.is("26: as() without a FINDING", x.status(), 0);
        x.judge(0, 2);
        DUE.is("26: judge() PLACE", x.status(), 2);
        x.set(0, 0, 1);
        x.more(2, 0);
        DUE.is("26: more() NULL", x.status(), 1);
        x.judge(0, 0);
        DUE.is("26: judge() without a FINDING", x.status(), 0);
        x.more(0, 3);
        DUE.is("26: more() PLACE", x.status(), 2);
        x.more(0, 0);
        DUE.is("26: more() without a FINDING", x.status(), 0);
    }
}
