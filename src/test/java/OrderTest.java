/**
 * "Refusals are answers, the first of these that fits: BAD, STATE, FULL, then FINDINGS, of several the first in time":
 * of each call, each two refusals that can fit at once.
 */
public final class OrderTest {
    private static final Due DUE = new Due();
    /** Good 0 has one maker, land 0; good 1 has both. */
    private static final String TIED = "good 1;good 3;land 10 1 2;land 5 4 1;";

    public static void main(String[] args) {
        numbers();
        row();
        set();
        copy();
        feed();
        rowsAndWorlds();
        judge();
        more();
        landsAndGoods();
        DUE.end("OrderTest");
    }

    private static void numbers() {
        LandGoods x = new LandGoods();
        DUE.is("BAD is NOT less 1", x.count(-1), -9000000000000000001L);
        DUE.is("STATE is NOT less 2", x.move(1), -9000000000000000002L);
        for (int n = 0; n < 50; n++) {
            x.feed(0, 8);
        }
        DUE.is("FULL is NOT less 3", x.feed(0, 1), -9000000000000000003L);
        DUE.is("NULL is NOT less 10 less 1", x.drop(0), -9000000000000000011L);
        x.row(0, 0, 0);
        DUE.is("PLACE is NOT less 10 less 2", x.set(0, 0, 0), -9000000000000000012L);
        DUE.is("SIZE is NOT less 10 less 4", x.row(0, 0, -1), -9000000000000000014L);
        x.row(1, 1, 0);
        DUE.is("STORE is NOT less 10 less 5", x.copy(0, 0, 1, 0, 0), -9000000000000000015L);
        DUE.is("KIND is NOT less 10 less 3", Due.worldOf(TIED).as(0, 2), -9000000000000000013L);
    }

    private static void row() {
        LandGoods x = new LandGoods();
        DUE.is("2: no such ROW ahead of SIZE", x.row(8, 0, -1), Due.BAD);
        DUE.is("2: no such ROW below ahead of SIZE", x.row(-1, 0, -1), Due.BAD);
        DUE.is("2: no such LANE ahead of SIZE", x.row(0, 3, -1), Due.BAD);
        DUE.is("2: no such LANE below ahead of SIZE", x.row(0, -1, -1), Due.BAD);
    }

    private static void set() {
        LandGoods x = new LandGoods();
        DUE.is("3: NULL ahead of PLACE", x.set(0, -1, 0), Due.NULL);
        DUE.is("3: NULL ahead of PLACE beyond", x.set(7, 40, 0), Due.NULL);
        DUE.is("3: BAD ahead of PLACE", x.set(8, -1, 0), Due.BAD);
    }

    private static void copy() {
        LandGoods x = new LandGoods();
        x.row(0, 0, 2);
        x.row(1, 1, 2);
        x.row(2, 0, 2);
        DUE.is("4: BAD ahead of NULL, from", x.copy(8, 0, 7, 0, 0), Due.BAD);
        DUE.is("4: BAD ahead of NULL, to", x.copy(7, 0, 8, 0, 0), Due.BAD);
        DUE.is("4: BAD ahead of NULL, to below", x.copy(7, 0, -1, 0, 0), Due.BAD);
        DUE.is("4: BAD ahead of PLACE", x.copy(0, -1, 8, 0, 0), Due.BAD);
        DUE.is("4: NULL ahead of PLACE, from", x.copy(7, -1, 0, 0, 0), Due.NULL);
        DUE.is("4: NULL ahead of PLACE, to", x.copy(0, -1, 7, 0, 0), Due.NULL);
        DUE.is("4: STORE ahead of PLACE, i below", x.copy(0, -1, 1, 0, 1), Due.STORE);
        DUE.is("4: STORE ahead of PLACE, j below", x.copy(0, 0, 1, -1, 1), Due.STORE);
        DUE.is("4: STORE ahead of PLACE, n below", x.copy(0, 0, 1, 0, -1), Due.STORE);
        DUE.is("4: STORE ahead of PLACE, beyond", x.copy(0, 0, 1, 0, 3), Due.STORE);
        DUE.is("4: STORE, if none is copied, too", x.copy(0, 0, 1, 0, 0), Due.STORE);
        x.drop(1);
        DUE.is("4: NULL ahead of the LANE that was there", x.copy(0, 0, 1, 0, 1), Due.NULL);
        DUE.is("4: NULL ahead of the LANE that was there, from", x.copy(1, 0, 0, 0, 1), Due.NULL);
        x.drop(2);
        DUE.is("4: a LANE alike that was there is missing, too", x.copy(0, 0, 2, 0, 1), Due.NULL);
    }

    private static void feed() {
        LandGoods x = new LandGoods();
        for (int n = 0; n < 50; n++) {
            x.feed(0, 8);
        }
        DUE.is("6: BAD ahead of FULL, none", x.feed(0, 0), Due.BAD);
        DUE.is("6: BAD ahead of FULL, below", x.feed(0, -1), Due.BAD);
        DUE.is("6: BAD ahead of FULL, nine", x.feed(0, 9), Due.BAD);
        DUE.is("6: FULL, eight", x.feed(0, 8), Due.FULL);
    }

    private static void rowsAndWorlds() {
        LandGoods x = new LandGoods();
        DUE.is("13: BAD ahead of STATE", x.judge(8, 0), Due.BAD);
        DUE.is("13: BAD below ahead of STATE", x.judge(-1, 0), Due.BAD);
        DUE.is("13: STATE ahead of NULL", x.judge(0, 0), Due.STATE);
        DUE.is("15: BAD ahead of STATE", x.more(8, 0), Due.BAD);
        DUE.is("15: BAD below ahead of STATE", x.more(-1, 0), Due.BAD);
        DUE.is("15: STATE ahead of NULL", x.more(0, 0), Due.STATE);
        Due.fill(x, 0, 0);
        DUE.is("13: STATE ahead of PLACE", x.judge(0, -1), Due.STATE);
        DUE.is("13: STATE ahead of an ITEM that is BAD", x.judge(0, 0), Due.STATE);
        DUE.is("15: STATE ahead of PLACE", x.more(0, 1), Due.STATE);
        DUE.is("15: STATE ahead of an ITEM that is BAD", x.more(0, 0), Due.STATE);
        DUE.is("20: BAD ahead of STATE, none", x.move(0), Due.BAD);
        DUE.is("20: BAD ahead of STATE, six", x.move(6), Due.BAD);
    }

    private static void judge() {
        LandGoods x = Due.worldOf(TIED);
        DUE.is("13: BAD ahead of PLACE", x.judge(8, -1), Due.BAD);
        DUE.is("13: NULL ahead of PLACE", x.judge(0, -1), Due.NULL);
        DUE.is("13: NULL ahead of PLACE beyond", x.judge(0, 40), Due.NULL);
        Due.fill(x, 0, 0, 0, 1000);
        DUE.is("13: PLACE ahead of an ITEM that is BAD, beyond", x.judge(0, 2), Due.PLACE);
        DUE.is("13: PLACE ahead of an ITEM that is BAD, below", x.judge(0, -1), Due.PLACE);
    }

    private static void more() {
        LandGoods x = Due.worldOf(TIED);
        DUE.is("15: BAD ahead of PLACE", x.more(8, -1), Due.BAD);
        DUE.is("15: NULL ahead of PLACE", x.more(0, -1), Due.NULL);
        DUE.is("15: NULL ahead of PLACE beyond", x.more(0, 40), Due.NULL);
        Due.fill(x, 0, 0, 0, 4);
        DUE.is("15: PLACE ahead of an ITEM that is BAD, beyond", x.more(0, 2), Due.PLACE);
        DUE.is("15: PLACE ahead of an ITEM that is BAD, below", x.more(0, -1), Due.PLACE);
    }

    private static void landsAndGoods() {
        LandGoods x = Due.worldOf(TIED);
        DUE.is("14: BAD ahead of NONE, no such LAND", x.chain(0, 2, 2), Due.BAD);
        DUE.is("14: BAD ahead of NONE, LANDS alike", x.chain(1, 1, 2), Due.BAD);
        DUE.is("18: BAD ahead of STATE", x.on(2), Due.BAD);
        DUE.is("18: BAD below ahead of STATE", x.on(-1), Due.BAD);
        DUE.is("18: STATE", x.on(1), Due.STATE);
        DUE.is("22: BAD ahead of KIND, no such GOOD", x.as(2, 2), Due.BAD);
        DUE.is("22: BAD ahead of KIND, no such KIND", x.as(0, 6), Due.BAD);
    }
}
