/** Promises 10 to 13: wages, prices, gains at rest, and wages told by hand. */
public final class AtRestTest {
    private static final Due DUE = new Due();
    /** Land 0 makes good 0, and both make good 1, as 10 hands at 1 and 5 at 2 earn alike. */
    private static final String TIED = "good 1;good 3;land 10 1 2;land 5 4 1;";
    /** Each land makes a good of its own. */
    private static final String APART = "good 2;good 5;land 10 10 20;land 10 20 1;";
    /** Lands 0 and 1 are alike and share good 0, land 2 has good 1 for itself. */
    private static final String TWINS = "good 1;good 1;land 10 1 9;land 10 1 9;land 10 9 1;";

    public static void main(String[] args) {
        wage();
        price();
        gain();
        judge();
        threeApart();
        DUE.end("AtRestTest");
    }

    private static void fraction(String what, long above, long below, long wantAbove, long wantBelow) {
        DUE.is(what + ", above", above, wantAbove);
        DUE.is(what + ", below", below, wantBelow);
    }

    private static void wageIs(LandGoods x, int land, long above, long below) {
        fraction("10: wage of " + land, x.wage(land, 0), x.wage(land, 1), above, below);
    }

    private static void priceIs(LandGoods x, int good, long above, long below, long makers) {
        fraction("11: price of " + good, x.price(good, 0), x.price(good, 1), above, below);
        DUE.is("11: makers of " + good, x.price(good, 2), makers);
    }

    private static void wage() {
        LandGoods x = Due.worldOf(TIED);
        wageIs(x, 0, 1, 1);
        wageIs(x, 1, 2, 1);
        x = Due.worldOf(APART);
        wageIs(x, 0, 1, 1);
        wageIs(x, 1, 5, 2);
        x = Due.worldOf(TWINS);
        wageIs(x, 1, 1, 1);
        wageIs(x, 2, 2, 1);
        DUE.is("10: no such land", x.wage(3, 0), Due.BAD);
        DUE.is("10: no such land below", x.wage(-1, 0), Due.BAD);
        DUE.is("10: no such what", x.wage(0, 2), Due.BAD);
        DUE.is("10: no such what below", x.wage(0, -1), Due.BAD);
        x = Due.worldOf("good 1;land 5 3;");
        wageIs(x, 0, 1, 1);
    }

    private static void price() {
        LandGoods x = Due.worldOf(TIED);
        priceIs(x, 0, 1, 1, 1);
        priceIs(x, 1, 2, 1, 3);
        x = Due.worldOf(APART);
        priceIs(x, 0, 10, 1, 1);
        priceIs(x, 1, 5, 2, 2);
        x = Due.worldOf(TWINS);
        priceIs(x, 0, 1, 1, 3);
        priceIs(x, 1, 2, 1, 4);
        DUE.is("11: no such good", x.price(2, 0), Due.BAD);
        DUE.is("11: no such good below", x.price(-1, 2), Due.BAD);
        DUE.is("11: no such what", x.price(0, 3), Due.BAD);
        DUE.is("11: no such what below", x.price(0, -1), Due.BAD);
    }

    private static void gain() {
        LandGoods x = Due.worldOf(TIED);
        fraction("12: gain of 1 by good 0", x.gain(1, 0, 0), x.gain(1, 0, 1), 8, 1);
        fraction("12: gain of 0 by good 1", x.gain(0, 1, 0), x.gain(0, 1, 1), 1, 1);
        x = Due.worldOf(APART);
        fraction("12: gain of 0 by good 1", x.gain(0, 1, 0), x.gain(0, 1, 1), 8, 1);
        fraction("12: gain of 1 by good 0", x.gain(1, 0, 0), x.gain(1, 0, 1), 5, 1);
        x = Due.worldOf(TWINS);
        fraction("12: gain of 1 by good 1", x.gain(1, 1, 0), x.gain(1, 1, 1), 9, 2);
        DUE.is("12: no such land", x.gain(3, 0, 0), Due.BAD);
        DUE.is("12: no such land below", x.gain(-1, 0, 0), Due.BAD);
        DUE.is("12: no such good", x.gain(0, 2, 0), Due.BAD);
        DUE.is("12: no such good below", x.gain(0, -1, 0), Due.BAD);
        DUE.is("12: no such what", x.gain(0, 0, 2), Due.BAD);
        DUE.is("12: no such what below", x.gain(0, 0, -1), Due.BAD);
    }

    private static void judged(LandGoods x, long want, int... wages) {
        Due.fill(x, 0, wages);
        DUE.is("13: judge of " + java.util.Arrays.toString(wages), x.judge(0, 0), want);
    }

    private static void judge() {
        LandGoods x = new LandGoods();
        DUE.is("13: no row", x.judge(8, 0), Due.BAD);
        DUE.is("13: no world", x.judge(0, -1), Due.STATE);
        Due.feedText(x, TIED);
        x.world();
        DUE.is("13: a missing row", x.judge(0, -1), Due.NULL);
        judged(x, 0, 1, 2);
        judged(x, 0, 400, 800);
        judged(x, 1, 1, 1);
        judged(x, 2, 1, 3);
        judged(x, Due.BAD, 0, 1);
        judged(x, Due.BAD, 1, 1000);
        judged(x, Due.BAD, 1, -1);
        judged(x, 2, 1, 999);
        judged(x, Due.PLACE, 0);
        Due.fill(x, 0, 0, 1, 2, 1000);
        DUE.is("13: items from 1 on", x.judge(0, 1), 0);
        DUE.is("13: items from 2 on", x.judge(0, 2), Due.BAD);
        DUE.is("13: items from 3 on", x.judge(0, 3), Due.PLACE);
        DUE.is("13: items from below", x.judge(0, -1), Due.PLACE);
        DUE.is("13: items from far off", x.judge(0, Integer.MAX_VALUE), Due.PLACE);
        x = Due.worldOf(TWINS);
        judged(x, 0, 1, 1, 2);
        judged(x, 1, 2, 1, 1);
        judged(x, 2, 1, 2, 3);
        judged(x, 3, 1, 1, 1);
        judged(x, 4, 1, 1, 3);
    }

    /** Three goods, three lands, each by far the best at one: incomes are as shares. */
    private static void threeApart() {
        LandGoods x = Due.worldOf("good 2;good 3;good 5;land 10 1 20 20;land 10 20 1 20;land 20 20 20 1;");
        wageIs(x, 1, 3, 2);
        wageIs(x, 2, 5, 4);
        priceIs(x, 0, 1, 1, 1);
        priceIs(x, 1, 3, 2, 2);
        priceIs(x, 2, 5, 4, 4);
        fraction("12: gain of 2 by good 1", x.gain(2, 1, 0), x.gain(2, 1, 1), 50, 3);
    }
}
