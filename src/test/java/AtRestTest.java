/** Promises 10 to 13: wages, prices, gains at rest, and wages told by hand. */
public final class AtRestTest {
    private static final Due DUE = new Due();
    /** Land 0 makes good 0, and both make good 1, as 10 hands at 1 and 5 at 2 earn alike. */
    private static final String TIED = "good 1;good 3;land 10 1 2;land 5 4 1;";
    /** Each land makes a good of its own. */
    private static final String APART = "good 2;good 5;land 10 10 20;land 10 20 1;";
    /** Lands 0 and 1 are alike and share good 0, land 2 has good 1 for itself. */
    private static final String TWINS = "good 1;good 1;land 10 1 9;land 10 1 9;land 10 9 1;";

    public static void main(String[] args) {
        wage();
        price();
        gain();
        judge();
        threeApart();
        oneLand();
        makersAreAllThatHaveTheLeast();
        fractionsAreInLowestTerms();
        widestWages();
        anyOrderOfLands();
        eachWorldAnew();
        moreThanIsNotAsMuchAs();
        eachSetOfLands();
        wagesByHandAsTold();
        asManyItemsAsLands();
        DUE.end("AtRestTest");
    }

    private static void fraction(String what, long above, long below, long wantAbove, long wantBelow) {
        DUE.is(what + ", above", above, wantAbove);
        DUE.is(what + ", below", below, wantBelow);
    }

    private static void wageIs(LandGoods x, int land, long above, long below) {
        fraction("10: wage of " + land, x.wage(land, 0), x.wage(land, 1), above, below);
    }

    private static void priceIs(LandGoods x, int good, long above, long below, long makers) {
        fraction("11: price of " + good, x.price(good, 0), x.price(good, 1), above, below);
        DUE.is("11: makers of " + good, x.price(good, 2), makers);
    }

    private static void wage() {
        LandGoods x = Due.worldOf(TIED);
        wageIs(x, 0, 1, 1);
        wageIs(x, 1, 2, 1);
        x = Due.worldOf(APART);
        wageIs(x, 0, 1, 1);
        wageIs(x, 1, 5, 2);
        x = Due.worldOf(TWINS);
        wageIs(x, 1, 1, 1);
        wageIs(x, 2, 2, 1);
        DUE.is("10: no such land", x.wage(3, 0), Due.BAD);
        DUE.is("10: no such land below", x.wage(-1, 0), Due.BAD);
        DUE.is("10: no such what", x.wage(0, 2), Due.BAD);
        DUE.is("10: no such what below", x.wage(0, -1), Due.BAD);
        x = Due.worldOf("good 1;land 5 3;");
        wageIs(x, 0, 1, 1);
    }

    private static void price() {
        LandGoods x = Due.worldOf(TIED);
        priceIs(x, 0, 1, 1, 1);
        priceIs(x, 1, 2, 1, 3);
        x = Due.worldOf(APART);
        priceIs(x, 0, 10, 1, 1);
        priceIs(x, 1, 5, 2, 2);
        x = Due.worldOf(TWINS);
        priceIs(x, 0, 1, 1, 3);
        priceIs(x, 1, 2, 1, 4);
        DUE.is("11: no such good", x.price(2, 0), Due.BAD);
        DUE.is("11: no such good below", x.price(-1, 2), Due.BAD);
        DUE.is("11: no such what", x.price(0, 3), Due.BAD);
        DUE.is("11: no such what below", x.price(0, -1), Due.BAD);
    }

    private static void gain() {
        LandGoods x = Due.worldOf(TIED);
        fraction("12: gain of 1 by good 0", x.gain(1, 0, 0), x.gain(1, 0, 1), 8, 1);
        fraction("12: gain of 0 by good 1", x.gain(0, 1, 0), x.gain(0, 1, 1), 1, 1);
        x = Due.worldOf(APART);
        fraction("12: gain of 0 by good 1", x.gain(0, 1, 0), x.gain(0, 1, 1), 8, 1);
        fraction("12: gain of 1 by good 0", x.gain(1, 0, 0), x.gain(1, 0, 1), 5, 1);
        x = Due.worldOf(TWINS);
        fraction("12: gain of 1 by good 1", x.gain(1, 1, 0), x.gain(1, 1, 1), 9, 2);
        DUE.is("12: no such land", x.gain(3, 0, 0), Due.BAD);
        DUE.is("12: no such land below", x.gain(-1, 0, 0), Due.BAD);
        DUE.is("12: no such good", x.gain(0, 2, 0), Due.BAD);
        DUE.is("12: no such good below", x.gain(0, -1, 0), Due.BAD);
        DUE.is("12: no such what", x.gain(0, 0, 2), Due.BAD);
        DUE.is("12: no such what below", x.gain(0, 0, -1), Due.BAD);
    }

    private static void judged(LandGoods x, long want, int... wages) {
        Due.fill(x, 0, wages);
        DUE.is("13: judge of " + java.util.Arrays.toString(wages), x.judge(0, 0), want);
    }

    private static void judge() {
        LandGoods x = new LandGoods();
        DUE.is("13: no row", x.judge(8, 0), Due.BAD);
        DUE.is("13: no world", x.judge(0, -1), Due.STATE);
        Due.feedText(x, TIED);
        x.world();
        DUE.is("13: a missing row", x.judge(0, -1), Due.NULL);
        judged(x, 0, 1, 2);
        judged(x, 0, 400, 800);
        judged(x, 1, 1, 1);
        judged(x, 2, 1, 3);
        judged(x, Due.BAD, 0, 1);
        judged(x, Due.BAD, 1, 1000);
        judged(x, Due.BAD, 1, -1);
        judged(x, 2, 1, 999);
        judged(x, Due.PLACE, 0);
        Due.fill(x, 0, 0, 1, 2, 1000);
        DUE.is("13: items from 1 on", x.judge(0, 1), 0);
        DUE.is("13: items from 2 on", x.judge(0, 2), Due.BAD);
        DUE.is("13: items from 3 on", x.judge(0, 3), Due.PLACE);
        DUE.is("13: items from below", x.judge(0, -1), Due.PLACE);
        DUE.is("13: items from far off", x.judge(0, Integer.MAX_VALUE), Due.PLACE);
        x = Due.worldOf(TWINS);
        judged(x, 0, 1, 1, 2);
        judged(x, 1, 2, 1, 1);
        judged(x, 2, 1, 2, 3);
        judged(x, 3, 1, 1, 1);
        judged(x, 4, 1, 1, 3);
    }

    /** Three goods, three lands, each by far the best at one: incomes are as shares. */
    private static void threeApart() {
        LandGoods x = Due.worldOf("good 2;good 3;good 5;land 10 1 20 20;land 10 20 1 20;land 20 20 20 1;");
        wageIs(x, 1, 3, 2);
        wageIs(x, 2, 5, 4);
        priceIs(x, 0, 1, 1, 1);
        priceIs(x, 1, 3, 2, 2);
        priceIs(x, 2, 5, 4, 4);
        fraction("12: gain of 2 by good 1", x.gain(2, 1, 0), x.gain(2, 1, 1), 50, 3);
    }

    /** One land makes all, at its own hours. */
    private static void oneLand() {
        LandGoods x = Due.worldOf("good 20;good 1;land 99 20 1;");
        wageIs(x, 0, 1, 1);
        priceIs(x, 0, 20, 1, 1);
        priceIs(x, 1, 1, 1, 1);
        fraction("12: gain of one land", x.gain(0, 0, 0), x.gain(0, 0, 1), 1, 1);
        fraction("12: gain of one land", x.gain(0, 1, 0), x.gain(0, 1, 1), 1, 1);
    }

    /** "MAKERS: all LANDS that have this least": also one that none of the good's coin needs to go to. */
    private static void makersAreAllThatHaveTheLeast() {
        LandGoods x = Due.worldOf("good 1;good 1;land 10 1 1;land 10 2 1;");
        wageIs(x, 1, 1, 1);
        priceIs(x, 0, 1, 1, 1);
        priceIs(x, 1, 1, 1, 3);
        x = Due.worldOf("good 1;good 1;land 10 1 2;land 10 2 1;");
        priceIs(x, 0, 1, 1, 1);
        priceIs(x, 1, 1, 1, 2);
        x = Due.worldOf("good 1;good 1;good 1;land 10 1 1 9;land 10 9 1 9;land 10 9 1 1;");
        wageIs(x, 1, 1, 1);
        wageIs(x, 2, 1, 1);
        priceIs(x, 0, 1, 1, 1);
        priceIs(x, 1, 1, 1, 7);
        priceIs(x, 2, 1, 1, 4);
        x = Due.worldOf("good 1;land 5 1;land 7 20;land 99 7;");
        priceIs(x, 0, 1, 1, 7);
        wageIs(x, 1, 1, 20);
        wageIs(x, 2, 1, 7);
    }

    private static void isLowest(String what, long above, long below) {
        DUE.is(what + ": above 0, both", above > 0 && below > 0 ? 1 : 0, 1);
        DUE.is(what + ": in lowest terms, " + above + " by " + below, Model.gcd(above, below), 1);
    }

    /** "in lowest terms (above 0, both)". */
    private static void fractionsAreInLowestTerms() {
        for (String text : new String[] {TIED, APART, TWINS, "good 20;good 10;land 20 2 4;land 10 8 6;",
            "good 6;good 4;good 10;land 12 2 20 20;land 18 20 4 20;land 30 20 20 6;",
            "good 3;good 5;good 2;good 7;good 1;land 20 3 7 2 9 4;land 35 5 4 6 8 1;land 8 2 9 9 3 5;"}) {
            LandGoods x = Due.worldOf(text);
            fraction("10: wage of 0 of '" + text + "'", x.wage(0, 0), x.wage(0, 1), 1, 1);
            for (int good = 0; good < x.count(2); good++) {
                isLowest("11: price", x.price(good, 0), x.price(good, 1));
                for (int land = 0; land < x.count(1); land++) {
                    isLowest("10: wage", x.wage(land, 0), x.wage(land, 1));
                    isLowest("12: gain", x.gain(land, good, 0), x.gain(land, good, 1));
                    DUE.is("12: nobody lives worse than alone", x.gain(land, good, 0) < x.gain(land, good, 1) ? 1 : 0, 0);
                }
            }
        }
        LandGoods x = Due.worldOf("good 6;good 4;good 10;land 12 2 20 20;land 18 20 4 20;land 30 20 20 6;");
        wageIs(x, 1, 4, 9);
        wageIs(x, 2, 2, 3);
        priceIs(x, 0, 2, 1, 1);
        priceIs(x, 1, 16, 9, 2);
        priceIs(x, 2, 4, 1, 4);
        fraction("12: gain of 0 by good 1", x.gain(0, 1, 0), x.gain(0, 1, 1), 45, 4);
    }

    /** The bounds of shares, HANDS and HOURS at once. */
    private static void widestWages() {
        LandGoods x = Due.worldOf("good 20;good 1;land 1 1 20;land 99 20 1;");
        // Apart, land 1 would have 1/99 of 1/20 of the wage; at a twentieth it makes good 1 and can make good 0 as well.
        wageIs(x, 1, 1, 20);
        priceIs(x, 0, 1, 1, 3);
        priceIs(x, 1, 1, 20, 2);
        fraction("12: the greatest gain", x.gain(0, 1, 0), x.gain(0, 1, 1), 400, 1);
        x = Due.worldOf("good 20;good 1;land 99 1 20;land 1 20 1;");
        wageIs(x, 1, 99, 20);
        priceIs(x, 1, 99, 20, 2);
        x = Due.worldOf("good 19;good 17;good 13;land 97 1 20 20;land 89 20 1 20;land 83 20 20 1;");
        wageIs(x, 1, 17 * 97, 89 * 19);
        wageIs(x, 2, 13 * 97, 83 * 19);
        priceIs(x, 2, 13 * 97, 83 * 19, 4);
        fraction("12: gain of 1 by good 2", x.gain(1, 2, 0), x.gain(1, 2, 1), 20 * 17 * 83, 13 * 89);
    }

    /** Which LAND is 0 changes the unit alone: wages stay to one another as they were. */
    private static void anyOrderOfLands() {
        String goods = "good 3;good 5;good 2;good 7;good 1;";
        String[] lands = {"land 20 3 7 2 9 4;", "land 35 5 4 6 8 1;", "land 8 2 9 9 3 5;"};
        long[] wages = {13, 12, 32};
        int[][] orders = {{0, 1, 2}, {0, 2, 1}, {1, 0, 2}, {1, 2, 0}, {2, 0, 1}, {2, 1, 0}};
        for (int[] order : orders) {
            LandGoods x = Due.worldOf(goods + lands[order[0]] + lands[order[1]] + lands[order[2]]);
            for (int land = 0; land < 3; land++) {
                long common = Model.gcd(wages[order[land]], wages[order[0]]);
                wageIs(x, land, wages[order[land]] / common, wages[order[0]] / common);
            }
        }
    }

    private static String wagesOf(LandGoods x) {
        StringBuilder all = new StringBuilder();
        for (int land = 0; land < x.count(1); land++) {
            all.append(x.wage(land, 0)).append('/').append(x.wage(land, 1)).append(' ');
        }
        return all.toString();
    }

    /** "All below is told of WAGES AT REST of the WORLD as it is": nothing of worlds before it is left. */
    private static void eachWorldAnew() {
        String[] texts = {TWINS, "good 2;good 3;good 5;land 1 1 20 20;land 1 20 1 20;land 2 20 20 1;",
            "good 1;good 1;good 1;good 1;good 2;good 4;"
                + "land 9 1 20 20 1 20 20;land 9 20 1 20 20 1 20;land 9 20 20 1 20 20 1;",
            "good 5;good 2;good 1;good 2;land 6 20 20 1 1;land 5 1 20 20 20;land 4 20 1 20 20;", TIED, APART,
            "good 1;land 5 1;land 7 20;land 99 7;", "good 5;land 7 3;"};
        String[] wages = {"1/1 1/1 2/1 ", "1/1 3/2 5/4 ", "1/1 3/2 5/2 ", "1/1 2/1 1/1 ", "1/1 2/1 ", "1/1 5/2 ",
            "1/1 1/20 1/7 ", "1/1 "};
        for (int first = 0; first < texts.length; first++) {
            for (int second = 0; second < texts.length; second++) {
                LandGoods x = Due.worldOf(texts[first]);
                DUE.is("10: wages " + wagesOf(x) + "of '" + texts[first] + "'", wages[first].equals(wagesOf(x)) ? 1 : 0, 1);
                Due.feedText(x, texts[second]);
                x.world();
                DUE.is("10: wages " + wagesOf(x) + "of '" + texts[second] + "' behind '" + texts[first] + "'",
                        wages[second].equals(wagesOf(x)) ? 1 : 0, 1);
            }
        }
    }

    /** "of which INCOMES, added, are more than all that GOODS get": just as much is not IDLE, the least more is. */
    private static void moreThanIsNotAsMuchAs() {
        LandGoods x = Due.worldOf(APART);
        judged(x, 0, 2, 5);
        judged(x, 0, 398, 995);
        judged(x, 1, 399, 997);
        judged(x, 2, 398, 996);
        judged(x, 1, 398, 994);
        x = Due.worldOf("good 1;good 1;land 10 1 1;land 10 2 1;");
        judged(x, 0, 1, 1);
        judged(x, 0, 999, 999);
        judged(x, 1, 999, 998);
        judged(x, 2, 998, 999);
    }

    /** "the least number": each set of LANDS that can be it. */
    private static void eachSetOfLands() {
        LandGoods x = Due.worldOf("good 1;good 1;land 10 1 9;land 10 9 1;land 10 1 9;");
        judged(x, 0, 1, 2, 1);
        judged(x, 1, 2, 2, 1);
        judged(x, 2, 1, 3, 1);
        judged(x, 4, 1, 2, 2);
        judged(x, 5, 1, 1, 1);
        x = Due.worldOf("good 1;good 1;land 10 9 1;land 10 1 9;land 10 1 9;");
        judged(x, 6, 1, 1, 1);
        judged(x, 0, 2, 1, 1);
        // Of {1}, {2} and {1, 2} together, the least.
        judged(x, 2, 1, 18, 18);
        x = Due.worldOf(TWINS);
        judged(x, 3, 1, 1, 1);
        // One land alone has more hands than work only if others make its goods.
        x = Due.worldOf("good 1;land 99 20;");
        judged(x, 0, 1);
        judged(x, 0, 999);
    }

    /** "as many ITEMS (1 to 999)": of each land, either side of each bound. */
    private static void wagesByHandAsTold() {
        LandGoods x = Due.worldOf(TWINS);
        for (int land = 0; land < 3; land++) {
            for (int v : new int[] {Integer.MIN_VALUE, -1, 0, 1, 999, 1000, Integer.MAX_VALUE}) {
                Due.fill(x, 0, 5, 5, 5);
                x.set(0, land, v);
                boolean fine = v >= 1 && v <= 999;
                DUE.is("13: a wage of " + v + " of land " + land + " is BAD", x.judge(0, 0) == Due.BAD ? 1 : 0, fine ? 0 : 1);
            }
        }
    }

    /** "as many ITEMS of a ROW from i on as there are LANDS": no more, and no fewer. */
    private static void asManyItemsAsLands() {
        String[] texts = {"good 1;land 1 1;", "good 1;land 1 1;land 1 1;", "good 1;land 1 1;land 1 1;land 1 1;"};
        for (int lands = 1; lands <= 3; lands++) {
            LandGoods x = Due.worldOf(texts[lands - 1]);
            for (int n = 0; n <= 5; n++) {
                Due.fill(x, 0, java.util.Arrays.copyOf(new int[] {7, 7, 7, 7, 7}, n));
                for (int i = -1; i <= n + 1; i++) {
                    boolean fits = i >= 0 && i + lands <= n;
                    DUE.is("13: judge of " + lands + " lands, " + n + " items, from " + i, x.judge(0, i),
                            fits ? 0 : Due.PLACE);
                }
            }
            // An item ahead of the first or behind the last may be as it likes.
            int[] items = new int[lands + 2];
            java.util.Arrays.fill(items, 1, lands + 1, 7);
            Due.fill(x, 1, items);
            DUE.is("13: items beside them, " + lands + " lands", x.judge(1, 1), 0);
            DUE.is("13: the one ahead, " + lands + " lands", x.judge(1, 0), Due.BAD);
            DUE.is("13: the one behind, " + lands + " lands", x.judge(1, 2), Due.BAD);
        }
    }
}
