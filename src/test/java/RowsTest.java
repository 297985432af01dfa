/** Promises 1 to 5 and 26: a new object, rows, status. */
public final class RowsTest {
    private static final Due DUE = new Due();

    public static void main(String[] args) {
        aNewObject();
        row();
        set();
        copy();
        drop();
        status();
        DUE.end("RowsTest");
    }

    private static void aNewObject() {
        LandGoods x = new LandGoods();
        for (int what = 0; what <= 5; what++) {
            DUE.is("1: count(" + what + ") when new", x.count(what), 0);
        }
        DUE.is("1: fault() when new", x.fault(), 0);
        DUE.is("1: status() when new", x.status(), 0);
        DUE.is("1: trace(0) when new", x.trace(0), LandGoods.NONE);
        DUE.is("1: move(1) when new", x.move(1), Due.STATE);
        DUE.is("1: wage(0, 0) when new", x.wage(0, 0), Due.BAD);
    }

    private static void row() {
        LandGoods x = new LandGoods();
        DUE.is("2: row(0, 0, 0)", x.row(0, 0, 0), 0);
        DUE.is("2: row(7, 2, 40)", x.row(7, 2, 40), 40);
        DUE.is("2: row(8, 0, 1)", x.row(8, 0, 1), Due.BAD);
        DUE.is("2: row(-1, 0, 1)", x.row(-1, 0, 1), Due.BAD);
        DUE.is("2: row(1, -1, 1)", x.row(1, -1, 1), Due.BAD);
        DUE.is("2: row(1, 3, 1)", x.row(1, 3, 1), Due.BAD);
        DUE.is("2: row(1, 0, 41)", x.row(1, 0, 41), Due.BAD);
        DUE.is("2: row(1, 0, MAX)", x.row(1, 0, Integer.MAX_VALUE), Due.BAD);
        DUE.is("2: row(1, 0, -1)", x.row(1, 0, -1), Due.SIZE);
        DUE.is("2: row(1, 0, MIN)", x.row(1, 0, Integer.MIN_VALUE), Due.SIZE);
        DUE.is("2: row(1, 3, -1), BAD is the first", x.row(1, 3, -1), Due.BAD);
        DUE.is("2: rows", x.count(0), 2);
        x.set(7, 39, 5);
        DUE.is("2: row(7, 2, -1)", x.row(7, 2, -1), Due.SIZE);
        DUE.is("2: a found row changes nothing", x.copy(7, 39, 7, 0, 1), 1);
        DUE.is("2: row(7, 2, 40) in place", x.row(7, 2, 40), 40);
        Due.feedText(x, "good 1;land 1 1;");
        x.world();
        x.set(7, 0, 1);
        DUE.is("2: items are 0 at first, in place of old ones too", x.judge(7, 39), Due.BAD);
        DUE.is("2: a shorter row in place", x.row(7, 1, 3), 3);
        DUE.is("2: its end", x.set(7, 3, 0), Due.PLACE);
    }

    private static void set() {
        LandGoods x = new LandGoods();
        x.row(0, 0, 3);
        x.row(1, 1, 3);
        x.row(2, 2, 3);
        DUE.is("3: set a byte", x.set(0, 0, 127), 127);
        DUE.is("3: set a byte beyond", x.set(0, 1, 128), -128);
        DUE.is("3: set a byte of many bits", x.set(0, 2, 0x12345), 0x45);
        DUE.is("3: set a byte below", x.set(0, 2, -129), 127);
        DUE.is("3: set a short", x.set(1, 0, 32767), 32767);
        DUE.is("3: set a short beyond", x.set(1, 0, 32768), -32768);
        DUE.is("3: set a short of many bits", x.set(1, 0, 0x12345), 0x2345);
        DUE.is("3: set an int", x.set(2, 2, Integer.MIN_VALUE), Integer.MIN_VALUE);
        DUE.is("3: set beyond", x.set(2, 3, 1), Due.PLACE);
        DUE.is("3: set below", x.set(2, -1, 1), Due.PLACE);
        DUE.is("3: set in a missing row", x.set(3, 0, 1), Due.NULL);
        DUE.is("3: set in no row", x.set(8, 0, 1), Due.BAD);
        DUE.is("3: set in no row below", x.set(-1, 0, 1), Due.BAD);
    }

    private static void copy() {
        LandGoods x = new LandGoods();
        Due.fill(x, 0, 1, 2, 3, 4);
        Due.fill(x, 1, 0, 0);
        DUE.is("4: copy over itself, up", x.copy(0, 0, 0, 1, 3), 3);
        itemsAre("4: up", x, 0, 1, 1, 2, 3);
        DUE.is("4: copy over itself, down", x.copy(0, 1, 0, 0, 3), 3);
        itemsAre("4: down", x, 0, 1, 2, 3, 3);
        DUE.is("4: copy to another", x.copy(0, 2, 1, 0, 2), 2);
        itemsAre("4: another", x, 1, 3, 3);
        DUE.is("4: copy none at the ends", x.copy(0, 4, 1, 2, 0), 0);
        DUE.is("4: copy none beyond", x.copy(0, 5, 1, 0, 0), Due.PLACE);
        DUE.is("4: copy none beyond there", x.copy(0, 0, 1, 3, 0), Due.PLACE);
        DUE.is("4: copy too many", x.copy(0, 3, 1, 0, 2), Due.PLACE);
        DUE.is("4: copy too many there", x.copy(0, 0, 1, 1, 2), Due.PLACE);
        DUE.is("4: copy fewer than none", x.copy(0, 0, 1, 0, -1), Due.PLACE);
        DUE.is("4: copy from below", x.copy(0, -1, 1, 0, 1), Due.PLACE);
        DUE.is("4: copy to below", x.copy(0, 0, 1, -1, 1), Due.PLACE);
        DUE.is("4: copy with a sum that wraps", x.copy(0, 1, 1, 1, Integer.MAX_VALUE), Due.PLACE);
        DUE.is("4: copy from a place that wraps", x.copy(0, Integer.MAX_VALUE, 1, 0, 1), Due.PLACE);
        x.row(2, 0, 4);
        DUE.is("4: copy between lanes, ahead of places", x.copy(0, -1, 2, 0, 1), Due.STORE);
        DUE.is("4: copy from a missing row", x.copy(3, 0, 0, 0, 1), Due.NULL);
        DUE.is("4: copy to a missing row", x.copy(0, 0, 3, 0, 1), Due.NULL);
        DUE.is("4: copy from no row", x.copy(8, 0, 0, 0, 1), Due.BAD);
        DUE.is("4: copy to no row", x.copy(3, 0, -1, 0, 1), Due.BAD);
        itemsAre("4: nothing is changed by these", x, 0, 1, 2, 3, 3);
        itemsAre("4: nor there", x, 1, 3, 3);
    }

    /** No call tells an item, so it is laid beside each number: wages of two like lands are at rest only if alike. */
    private static void itemsAre(String what, LandGoods x, int row, int... items) {
        Due.feedText(x, "good 1;land 1 1;land 1 1;");
        x.world();
        for (int i = 0; i < items.length; i++) {
            for (int v = 1; v <= 4; v++) {
                Due.fill(x, 7, v, v);
                x.copy(row, i, 7, 0, 1);
                DUE.is(what + ": item " + i + " is " + v, x.judge(7, 0) == 0 ? 1 : 0, items[i] == v ? 1 : 0);
            }
        }
    }

    private static void drop() {
        LandGoods x = new LandGoods();
        x.row(0, 0, 5);
        x.row(1, 0, 0);
        DUE.is("5: drop(0)", x.drop(0), 5);
        DUE.is("5: drop(0) again", x.drop(0), Due.NULL);
        DUE.is("5: rows", x.count(0), 1);
        DUE.is("5: drop(1), an empty one", x.drop(1), 0);
        DUE.is("5: rows then", x.count(0), 0);
        DUE.is("5: drop(8)", x.drop(8), Due.BAD);
        DUE.is("5: drop(-1)", x.drop(-1), Due.BAD);
        x.row(0, 1, 2);
        DUE.is("5: anew, with 0", x.set(0, 1, 9), 9);
    }

    private static void status() {
        LandGoods x = new LandGoods();
        x.row(0, 0, -1);
        DUE.is("26: SIZE", x.status(), 4);
        x.row(9, 0, 1);
        DUE.is("26: BAD does not count", x.status(), 4);
        x.judge(0, 0);
        x.more(0, 0);
        DUE.is("26: STATE does not count", x.status(), 4);
        x.drop(0);
        DUE.is("26: NULL", x.status(), 1);
        x.row(0, 0, 2);
        DUE.is("26: none", x.status(), 0);
        x.set(0, 2, 1);
        DUE.is("26: PLACE", x.status(), 2);
        x.row(1, 1, 2);
        x.copy(0, 0, 1, 0, 1);
        DUE.is("26: STORE", x.status(), 5);
        Due.feedText(x, "good 1;land 1 1;");
        x.world();
        x.kind(0);
        x.wage(0, 0);
        DUE.is("26: calls without a ROW do not count", x.status(), 5);
        x.as(0, 2);
        DUE.is("26: KIND", x.status(), 3);
        x.as(1, 0);
        DUE.is("26: as() that is BAD does not count", x.status(), 3);
        x.judge(0, 0);
        DUE.is("26: judge() of a BAD ITEM does not count", x.status(), 3);
        x.more(0, 0);
        DUE.is("26: more() of a BAD ITEM does not count", x.status(), 3);
        x.as(0, 1);
        DUE.is("26: as() without a FINDING", x.status(), 0);
        x.judge(0, 2);
        DUE.is("26: judge() PLACE", x.status(), 2);
        x.set(0, 0, 1);
        x.more(2, 0);
        DUE.is("26: more() NULL", x.status(), 1);
        x.judge(0, 0);
        DUE.is("26: judge() without a FINDING", x.status(), 0);
        x.more(0, 3);
        DUE.is("26: more() PLACE", x.status(), 2);
        x.more(0, 0);
        DUE.is("26: more() without a FINDING", x.status(), 0);
    }
}
