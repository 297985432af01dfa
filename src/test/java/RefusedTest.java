import java.util.ArrayList;
import java.util.Arrays;
import java.util.List;
import java.util.function.Consumer;
import java.util.function.ToLongFunction;

/**
 * "What is refused, or found, changes nothing but status()": two objects come to the same state, one of them gets the
 * call, and then both must answer alike to all that can be asked, down to the items of the rows and the bytes on the
 * tape. So must calls that only tell something, and calls that change one thing must leave the others.
 */
public final class RefusedTest {
    private static final Due DUE = new Due();
    /** What status() tells in a scene before the call. */
    private static final int STORE_STATUS = 5;
    private static final int[] BYTES = {5, 6, 7};
    private static final int[] SHORTS = {300, 301};
    private static final int[] INTS = {9, 1, 2, 3};
    private static final int[] NO_WAGES = {1000, 1, 0, 8};
    private static final int LEFT_TO_READ = 5;
    private static final int SCRATCH = 7;

    /** How an object comes to a state. */
    private interface Scene extends Consumer<LandGoods> { }

    private static final Scene NEW = RefusedTest::fillRows;
    private static final Scene WORLD = RefusedTest::comeToAWorld;
    private static final Scene UNMOVED = x -> {
        fillRows(x);
        x.world();
        Due.feedText(x, "good 1;good 3;land 10 1 2;land 5 4 1;");
        x.world();
        Due.feedText(x, "good 5;");
    };
    private static final Scene FULL_TAPE = x -> {
        comeToAWorld(x);
        x.world();
        Due.feedText(x, "good 5;" + " ".repeat(390) + "l");
    };

    public static void main(String[] args) {
        ordinary();
        rowsRefused();
        withoutAWorld();
        numbersRefused();
        rowsFoundInAWorld();
        tapeRefused();
        onlyTold();
        faultLeavesAllButTapeAndFault();
        worldLeavesRowsTraceFaultStatus();
        changesOfTheWorldLeaveTheRest();
        DUE.end("RefusedTest");
    }

    private static void fillRows(LandGoods x) {
        fillRow(x, 0, 0, BYTES);
        fillRow(x, 1, 1, SHORTS);
        fillRow(x, 2, 2, INTS);
        x.row(3, 2, 0);
        fillRow(x, 4, 2, NO_WAGES);
        x.row(5, 0, 3);
        x.drop(5);
        Due.feedText(x, "good 21;");
        x.world();
        Due.feedText(x, "good 5;");
        x.copy(0, 0, 1, 0, 1);
    }

    private static void fillRow(LandGoods x, int row, int lane, int[] items) {
        x.row(row, lane, items.length);
        for (int i = 0; i < items.length; i++) {
            x.set(row, i, items[i]);
        }
    }

    /** A world of three lands in which something was learned, with a trace, a fault and bytes on the tape. */
    private static void comeToAWorld(LandGoods x) {
        fillRows(x);
        x.world();
        Due.feedText(x, "good 3;good 5;good 2;land 20 3 7 2;land 35 5 4 6;land 8 2 9 9;");
        x.world();
        x.learn(0, 2, 0);
        x.ask(2, 0);
        Due.feedText(x, "good 21;");
        x.world();
        Due.feedText(x, "good 5;");
    }

    // ---- what can be seen

    private static List<Long> seen(LandGoods x) {
        List<Long> all = new ArrayList<>();
        int lands = (int) x.count(1);
        int goods = (int) x.count(2);
        for (int what = 0; what <= 5; what++) {
            all.add(x.count(what));
        }
        all.add((long) x.fault());
        for (int i = 0; i < 11; i++) {
            all.add((long) x.trace(i));
        }
        for (int land = 0; land < lands; land++) {
            all.add(x.wage(land, 0));
            all.add(x.wage(land, 1));
            all.add(x.told(land, 0, 1));
            all.add(x.on(land));
            for (int good = 0; good < goods; good++) {
                all.add(x.told(land, good, 0));
            }
        }
        for (int good = 0; good < goods; good++) {
            all.add(x.told(0, good, 2));
            all.add(x.price(good, 2));
        }
        if (lands == 0) {
            all.add(x.on(0));
        }
        readTape(x, all);
        readRows(x, all);
        return all;
    }

    /** The bytes on the tape: what stands behind them ends a text, if they are as they were. */
    private static void readTape(LandGoods x, List<Long> all) {
        if (x.count(5) < 390) {
            Due.feedText(x, "land 7 3;");
        }
        all.add(x.world());
        all.add((long) x.fault());
        all.add(x.told(0, 0, 2));
    }

    /** The items: laid beside the number that is due, in a world where wages are at rest only if alike. */
    private static void readRows(LandGoods x, List<Long> all) {
        for (int row = 0; row < SCRATCH; row++) {
            all.add(x.copy(row, 0, row, 0, 0));
        }
        // What is left on the tape must not come ahead of the text.
        if (x.count(5) > 0) {
            x.world();
        }
        Due.feedText(x, "good 1;land 1 1;land 1 1;");
        x.world();
        int[][] rows = {BYTES, SHORTS, INTS};
        for (int row = 0; row < rows.length; row++) {
            x.row(SCRATCH, row, 2);
            for (int i = 0; i < rows[row].length; i++) {
                x.set(SCRATCH, 1, rows[row][i]);
                all.add(x.copy(row, i, SCRATCH, 0, 1));
                all.add(x.judge(SCRATCH, 0));
            }
        }
        for (int i = -1; i < 4; i++) {
            all.add(x.judge(4, i));
        }
        for (int row = 0; row < SCRATCH; row++) {
            all.add(x.drop(row));
        }
    }

    private static void isUnchanged(String what, LandGoods with, LandGoods without) {
        List<Long> got = seen(with);
        List<Long> want = seen(without);
        if (!got.equals(want)) {
            DUE.is(what + " has changed something: " + got + " instead of " + want, 1, 0);
        }
    }

    /** One call on one of two objects: its answer, status() behind it, and that nothing else has changed. */
    private static void call(Scene scene, String name, ToLongFunction<LandGoods> call, long due, int status) {
        LandGoods with = new LandGoods();
        LandGoods without = new LandGoods();
        scene.accept(with);
        scene.accept(without);
        DUE.is(name + ": status() ahead", with.status(), STORE_STATUS);
        DUE.is(name, call.applyAsLong(with), due);
        DUE.is(name + ": status() behind", with.status(), status);
        isUnchanged(name, with, without);
    }

    private static void refused(Scene scene, String name, long due, ToLongFunction<LandGoods> call) {
        boolean found = due <= Due.NULL && due >= Due.STORE;
        call(scene, name, call, due, found ? (int) (LandGoods.NOT - 10 - due) : STORE_STATUS);
    }

    // ---- the calls

    /** The scenes must show what they are there for, else all below proves little. */
    private static void ordinary() {
        LandGoods x = new LandGoods();
        WORLD.accept(x);
        DUE.is("scene: lands", x.count(1), 3);
        DUE.is("scene: fault", x.fault(), 2);
        DUE.is("scene: bytes", x.count(5), 7);
        DUE.is("scene: a trace", x.trace(0), 14);
        DUE.is("scene: who learned gained", x.on(0), 1);
        DUE.is("scene: one gained and lost", x.on(1), 2);
        DUE.is("scene: one was hurt", x.on(2), -1);
        DUE.is("scene: rows", x.count(0), LEFT_TO_READ);
        List<Long> all = new ArrayList<>();
        readTape(x, all);
        DUE.is("scene: the tape ends a text", all.get(0), 1);
        all.clear();
        readRows(x, all);
        for (int i = 0; i < 2 * (BYTES.length + SHORTS.length + INTS.length); i += 2) {
            DUE.is("scene: an item is copied", all.get(SCRATCH + i), 1);
            DUE.is("scene: an item is as it was set", all.get(SCRATCH + i + 1), 0);
        }
        DUE.is("scene: rows dropped", Arrays.asList(3L, 2L, 4L, 0L, 4L, Due.NULL, Due.NULL).equals(
                all.subList(all.size() - SCRATCH, all.size())) ? 1 : 0, 1);
    }

    private static void rowsRefused() {
        for (Scene scene : new Scene[] {NEW, WORLD}) {
            refused(scene, "row(8, 0, 1)", Due.BAD, x -> x.row(8, 0, 1));
            refused(scene, "row(-1, 0, 1)", Due.BAD, x -> x.row(-1, 0, 1));
            refused(scene, "row(0, 3, 1)", Due.BAD, x -> x.row(0, 3, 1));
            refused(scene, "row(0, -1, 1)", Due.BAD, x -> x.row(0, -1, 1));
            refused(scene, "row(0, 0, 41)", Due.BAD, x -> x.row(0, 0, 41));
            refused(scene, "row(0, 1, -1)", Due.SIZE, x -> x.row(0, 1, -1));
            refused(scene, "row(5, 1, -1)", Due.SIZE, x -> x.row(5, 1, -1));
            refused(scene, "set(8, 0, 1)", Due.BAD, x -> x.set(8, 0, 1));
            refused(scene, "set(-1, 0, 1)", Due.BAD, x -> x.set(-1, 0, 1));
            refused(scene, "set(5, 0, 1)", Due.NULL, x -> x.set(5, 0, 1));
            refused(scene, "set(0, 3, 1)", Due.PLACE, x -> x.set(0, 3, 1));
            refused(scene, "set(0, -1, 1)", Due.PLACE, x -> x.set(0, -1, 1));
            refused(scene, "set(3, 0, 1)", Due.PLACE, x -> x.set(3, 0, 1));
            refused(scene, "copy(8, 0, 0, 0, 1)", Due.BAD, x -> x.copy(8, 0, 0, 0, 1));
            refused(scene, "copy(0, 0, 8, 0, 1)", Due.BAD, x -> x.copy(0, 0, 8, 0, 1));
            refused(scene, "copy(5, 0, 0, 0, 1)", Due.NULL, x -> x.copy(5, 0, 0, 0, 1));
            refused(scene, "copy(0, 0, 5, 0, 1)", Due.NULL, x -> x.copy(0, 0, 5, 0, 1));
            refused(scene, "copy(0, 0, 1, 1, 1)", Due.STORE, x -> x.copy(0, 0, 1, 1, 1));
            refused(scene, "copy(1, 0, 2, 0, 1)", Due.STORE, x -> x.copy(1, 0, 2, 0, 1));
            refused(scene, "copy(0, 0, 0, 1, 3)", Due.PLACE, x -> x.copy(0, 0, 0, 1, 3));
            refused(scene, "copy(0, 1, 0, 0, 3)", Due.PLACE, x -> x.copy(0, 1, 0, 0, 3));
            refused(scene, "copy(2, 1, 2, 0, -1)", Due.PLACE, x -> x.copy(2, 1, 2, 0, -1));
            refused(scene, "copy(2, -1, 2, 0, 2)", Due.PLACE, x -> x.copy(2, -1, 2, 0, 2));
            refused(scene, "copy(2, 0, 2, -1, 2)", Due.PLACE, x -> x.copy(2, 0, 2, -1, 2));
            refused(scene, "copy(2, 0, 4, 3, 2)", Due.PLACE, x -> x.copy(2, 0, 4, 3, 2));
            refused(scene, "drop(8)", Due.BAD, x -> x.drop(8));
            refused(scene, "drop(-1)", Due.BAD, x -> x.drop(-1));
            refused(scene, "drop(5)", Due.NULL, x -> x.drop(5));
        }
    }

    private static void withoutAWorld() {
        refused(NEW, "judge(2, 1), no world", Due.STATE, x -> x.judge(2, 1));
        refused(NEW, "judge(5, 0), no world", Due.STATE, x -> x.judge(5, 0));
        refused(NEW, "more(2, 1), no world", Due.STATE, x -> x.more(2, 1));
        refused(NEW, "more(8, 1), no world", Due.BAD, x -> x.more(8, 1));
        refused(NEW, "move(1), no world", Due.STATE, x -> x.move(1));
        refused(NEW, "move(6), no world", Due.BAD, x -> x.move(6));
        refused(NEW, "learn(0, 1, 0), no world", Due.BAD, x -> x.learn(0, 1, 0));
        refused(NEW, "as(0, 0), no world", Due.BAD, x -> x.as(0, 0));
        refused(NEW, "ask(0, 0), no world", Due.BAD, x -> x.ask(0, 0));
        refused(NEW, "edge(0, 0), no world", Due.BAD, x -> x.edge(0, 0));
        refused(NEW, "chain(0, 1, 0), no world", Due.BAD, x -> x.chain(0, 1, 0));
    }

    private static void numbersRefused() {
        refused(WORLD, "told(3, 0, 0)", Due.BAD, x -> x.told(3, 0, 0));
        refused(WORLD, "wage(3, 0)", Due.BAD, x -> x.wage(3, 0));
        refused(WORLD, "price(3, 0)", Due.BAD, x -> x.price(3, 0));
        refused(WORLD, "gain(0, 0, 2)", Due.BAD, x -> x.gain(0, 0, 2));
        refused(WORLD, "chain(0, 0, 0)", Due.BAD, x -> x.chain(0, 0, 0));
        refused(WORLD, "chain(0, 1, -2)", Due.BAD, x -> x.chain(0, 1, -2));
        refused(WORLD, "stays(0, 0, 901)", Due.BAD, x -> x.stays(0, 0, 901));
        refused(WORLD, "learn(0, 0, 0)", Due.BAD, x -> x.learn(0, 0, 0));
        refused(WORLD, "learn(0, 3, 0)", Due.BAD, x -> x.learn(0, 3, 0));
        refused(WORLD, "learn(3, 0, 0)", Due.BAD, x -> x.learn(3, 0, 0));
        refused(WORLD, "learn(0, 2, 3)", Due.BAD, x -> x.learn(0, 2, 3));
        refused(WORLD, "on(3)", Due.BAD, x -> x.on(3));
        refused(WORLD, "edge(0, 3)", Due.BAD, x -> x.edge(0, 3));
        refused(WORLD, "move(0)", Due.BAD, x -> x.move(0));
        refused(WORLD, "move(6)", Due.BAD, x -> x.move(6));
        refused(WORLD, "kind(3)", Due.BAD, x -> x.kind(3));
        refused(WORLD, "as(3, 0)", Due.BAD, x -> x.as(3, 0));
        refused(WORLD, "as(0, 6)", Due.BAD, x -> x.as(0, 6));
        refused(WORLD, "as(0, 3)", Due.KIND, x -> x.as(0, 3));
        refused(WORLD, "ask(3, 0)", Due.BAD, x -> x.ask(3, 0));
        refused(WORLD, "ask(0, 2)", Due.BAD, x -> x.ask(0, 2));
        refused(WORLD, "count(6)", Due.BAD, x -> x.count(6));
        refused(UNMOVED, "on(0), nothing learned", Due.STATE, x -> x.on(0));
        refused(UNMOVED, "learn(1, 1, 0), nothing learned", Due.BAD, x -> x.learn(1, 1, 0));
        refused(UNMOVED, "move(0), nothing learned", Due.BAD, x -> x.move(0));
        refused(UNMOVED, "move(6), nothing learned", Due.BAD, x -> x.move(6));
    }

    private static void rowsFoundInAWorld() {
        refused(WORLD, "judge(8, 0)", Due.BAD, x -> x.judge(8, 0));
        refused(WORLD, "judge(5, 0)", Due.NULL, x -> x.judge(5, 0));
        refused(WORLD, "judge(2, 2)", Due.PLACE, x -> x.judge(2, 2));
        refused(WORLD, "judge(2, -1)", Due.PLACE, x -> x.judge(2, -1));
        refused(WORLD, "judge(4, 0)", Due.BAD, x -> x.judge(4, 0));
        refused(WORLD, "more(8, 0)", Due.BAD, x -> x.more(8, 0));
        refused(WORLD, "more(5, 0)", Due.NULL, x -> x.more(5, 0));
        refused(WORLD, "more(2, 2)", Due.PLACE, x -> x.more(2, 2));
        refused(WORLD, "more(2, -1)", Due.PLACE, x -> x.more(2, -1));
        refused(WORLD, "more(2, 0)", Due.BAD, x -> x.more(2, 0));
    }

    private static void tapeRefused() {
        for (Scene scene : new Scene[] {NEW, WORLD, UNMOVED}) {
            refused(scene, "feed(.., 0)", Due.BAD, x -> x.feed(0x3B, 0));
            refused(scene, "feed(.., 9)", Due.BAD, x -> x.feed(0x3B, 9));
            refused(scene, "feed(.., -1)", Due.BAD, x -> x.feed(0x3B, -1));
        }
        refused(FULL_TAPE, "feed(.., 3), room for two", Due.FULL, x -> x.feed(0x3B3B3B, 3));
        refused(FULL_TAPE, "feed(.., 8), room for two", Due.FULL, x -> x.feed(-1, 8));
        refused(FULL_TAPE, "feed(.., 9), room for two", Due.BAD, x -> x.feed(-1, 9));
    }

    /** Calls that are not refused, and yet only tell something. */
    private static void onlyTold() {
        call(WORLD, "told(2, 2, 0)", x -> x.told(2, 2, 0), 9, STORE_STATUS);
        call(WORLD, "wage(0, 0)", x -> x.wage(0, 0), 1, STORE_STATUS);
        call(WORLD, "chain(0, 1, 3)", x -> x.chain(0, 1, 3), LandGoods.NONE, STORE_STATUS);
        call(WORLD, "chain(1, 2, -1)", x -> x.chain(1, 2, -1) > 0 ? 1 : 0, 1, STORE_STATUS);
        call(WORLD, "trace(-1)", x -> x.trace(-1), LandGoods.NONE, STORE_STATUS);
        call(WORLD, "edge(1, 0), one that is", x -> x.edge(1, 0) == LandGoods.NONE ? 1 : 0, 0, STORE_STATUS);
        call(WORLD, "edge of all", x -> {
            for (int land = 0; land < 3; land++) {
                for (int good = 0; good < 3; good++) {
                    x.edge(land, good);
                }
            }
            return 0;
        }, 0, STORE_STATUS);
        call(WORLD, "judge(2, 0)", x -> x.judge(2, 0) > 0 ? 1 : 0, 1, 0);
        call(WORLD, "more(2, 1)", x -> x.more(2, 1) >= 0 ? 1 : 0, 1, 0);
        call(WORLD, "as(0, 0)", x -> x.as(0, 0), 0, 0);
        call(WORLD, "as(2, 0)", x -> x.as(2, 0), 2, 0);
        call(WORLD, "kind(0)", x -> x.kind(0) >= 0 ? 1 : 0, 1, STORE_STATUS);
        call(WORLD, "copy(2, 0, 2, 0, 4) onto itself", x -> x.copy(2, 0, 2, 0, 4), 4, 0);
        call(WORLD, "copy(3, 0, 2, 4, 0) of none", x -> x.copy(3, 0, 2, 4, 0), 0, 0);
    }

    // ---- what changes one thing leaves the others

    /** "NOT less 100 less the place of a FAULT: the WORLD stays": and so do rows, the trace, on() and status(). */
    private static void faultLeavesAllButTapeAndFault() {
        LandGoods with = new LandGoods();
        LandGoods without = new LandGoods();
        comeToAWorld(with);
        comeToAWorld(without);
        DUE.is("7: a FAULT", with.world(), LandGoods.NOT - 107);
        DUE.is("8: its number", with.fault(), 1);
        DUE.is("7: the tape is empty", with.count(5), 0);
        DUE.is("26: world() is no call with a ROW", with.status(), STORE_STATUS);
        // The same bytes and the same fault again, so that only the rest can be unlike.
        Due.feedText(with, "good 21;");
        with.world();
        Due.feedText(with, "good 5;");
        isUnchanged("world() with a FAULT", with, without);
        // A text that goes wrong late has told of goods and lands by then.
        with = new LandGoods();
        without = new LandGoods();
        comeToAWorld(with);
        comeToAWorld(without);
        with.world();
        Due.feedText(with, "good 9;land 9 9;land 8 8;land 7 21;");
        DUE.is("7: a late FAULT", with.world(), LandGoods.NOT - 132);
        Due.feedText(with, "good 5;");
        isUnchanged("world() with a late FAULT", with, without);
    }

    private static void worldLeavesRowsTraceFaultStatus() {
        LandGoods x = new LandGoods();
        comeToAWorld(x);
        int first = x.trace(0);
        Due.feedText(x, "land 7 3;");
        DUE.is("7: a world is read", x.world(), 1);
        DUE.is("7: the tape is empty", x.count(5), 0);
        DUE.is("8: the latest FAULT stays", x.fault(), 2);
        DUE.is("24: the trace stays", x.trace(0), first);
        DUE.is("26: status() stays", x.status(), STORE_STATUS);
        DUE.is("18: nothing was learned in it", x.on(0), Due.STATE);
        DUE.is("7: it stands in place: lands", x.count(1), 1);
        DUE.is("7: it stands in place: goods", x.count(2), 1);
        DUE.is("7: a land of the one before", x.told(1, 0, 0), Due.BAD);
        DUE.is("7: a good of the one before", x.told(0, 1, 0), Due.BAD);
        rowsAreLeft("world()", x);
    }

    private static void changesOfTheWorldLeaveTheRest() {
        LandGoods x = new LandGoods();
        comeToAWorld(x);
        int first = x.trace(0);
        DUE.is("20: move(1)", x.move(1), 1);
        DUE.is("17: learn(1, 0, 2)", x.learn(1, 0, 2), 4);
        DUE.is("24: the trace stays", x.trace(0), first);
        DUE.is("8: the latest FAULT stays", x.fault(), 2);
        DUE.is("26: status() stays", x.status(), STORE_STATUS);
        DUE.is("6: the tape stays", x.count(5), 7);
        rowsAreLeft("learn() and move()", x);
    }

    private static void rowsAreLeft(String what, LandGoods x) {
        LandGoods fresh = new LandGoods();
        fillRows(fresh);
        List<Long> got = new ArrayList<>();
        List<Long> want = new ArrayList<>();
        readRows(x, got);
        readRows(fresh, want);
        DUE.is(what + " leaves the rows: " + got + ", due " + want, got.equals(want) ? 1 : 0, 1);
    }
}
