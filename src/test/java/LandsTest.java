/** Promises 14 to 20: lands beside lands. */
public final class LandsTest {
    private static final Due DUE = new Due();
    private static final String TIED = "good 1;good 3;land 10 1 2;land 5 4 1;";
    private static final String EACH_ITS_OWN = "good 1;good 1;land 10 1 2;land 10 2 1;";

    public static void main(String[] args) {
        chain();
        chainOfSix();
        theCut();
        more();
        moreOfThree();
        lessThanOneIsNotOne();
        byGoodsThatMakeItLeast();
        ofSeveralRingsTheLeast();
        spreadsAsTold();
        stays();
        staysIfNoMore();
        learn();
        learnWhereTheseAreFewer();
        on();
        onTheLatestOfThisWorld();
        edge();
        edgeWithinOneToTwenty();
        edgeWithMoreAheadOfFewer();
        move();
        moveUpToNTimes();
        moveAsLongAsItCanBe();
        DUE.end("LandsTest");
    }

    private static void chain() {
        LandGoods x = Due.worldOf(TIED);
        DUE.is("14: the first", x.chain(0, 1, 0), 0);
        DUE.is("14: the second", x.chain(0, 1, 1), 1);
        DUE.is("14: no third", x.chain(0, 1, 2), LandGoods.NONE);
        DUE.is("14: none so far off", x.chain(0, 1, Integer.MAX_VALUE), LandGoods.NONE);
        DUE.is("14: the cut", x.chain(0, 1, -1), 3);
        DUE.is("14: the other way, the first", x.chain(1, 0, 0), 1);
        DUE.is("14: the other way, the cut", x.chain(1, 0, -1), 1);
        DUE.is("14: below the cut", x.chain(0, 1, -2), Due.BAD);
        DUE.is("14: lands alike", x.chain(1, 1, 0), Due.BAD);
        DUE.is("14: no such land", x.chain(0, 2, 0), Due.BAD);
        DUE.is("14: no such land below", x.chain(-1, 0, 0), Due.BAD);
        DUE.is("14: BAD ahead of NONE", x.chain(0, 2, 9), Due.BAD);
        DUE.is("14: the cut between two", Due.worldOf(EACH_ITS_OWN).chain(0, 1, -1), 2);
        x = Due.worldOf("good 1;good 1;good 1;land 9 4 2 6;land 9 2 1 3;land 1 1 1 1;");
        for (int i = 0; i < 3; i++) {
            DUE.is("14: alike ones by numbers", x.chain(1, 0, i), i);
        }
        DUE.is("14: all by both", x.chain(0, 1, -1), 1);
        // Alone, 10 hands at 1 earn as much as 10 at 1: the third land, that makes all cheaper, is as if not there.
        x = Due.worldOf("good 1;good 1;land 10 1 2;land 10 2 1;land 99 1 1;");
        DUE.is("14: as if there were no other", x.chain(0, 1, -1), 2);
    }

    private static void moreIs(LandGoods x, long want, int... spread) {
        Due.fill(x, 0, spread);
        DUE.is("15: more of " + java.util.Arrays.toString(spread), x.more(0, 0), want);
    }

    private static void more() {
        LandGoods x = new LandGoods();
        DUE.is("15: no row", x.more(-1, 0), Due.BAD);
        DUE.is("15: no world", x.more(0, 0), Due.STATE);
        Due.feedText(x, EACH_ITS_OWN);
        x.world();
        DUE.is("15: a missing row", x.more(0, 0), Due.NULL);
        moreIs(x, 0, 1, 2);
        moreIs(x, 17, 2, 1);
        moreIs(x, 17, 3, 3);
        moreIs(x, 0, 1, 1);
        moreIs(x, 0, 1, 3);
        moreIs(x, Due.BAD, 0, 1);
        moreIs(x, Due.BAD, 1, 4);
        moreIs(x, Due.BAD, -1, 1);
        moreIs(x, Due.PLACE, 1);
        Due.fill(x, 0, 0, 2, 1, 0);
        DUE.is("15: items from 1 on", x.more(0, 1), 17);
        DUE.is("15: items from 0 on", x.more(0, 0), Due.BAD);
        DUE.is("15: items from 3 on", x.more(0, 3), Due.PLACE);
        DUE.is("15: items from below", x.more(0, -1), Due.PLACE);
        DUE.is("15: items from far off", x.more(0, Integer.MAX_VALUE), Due.PLACE);
    }

    private static void moreOfThree() {
        LandGoods x = Due.worldOf("good 1;good 1;good 1;land 1 2 5 1;land 1 1 2 5;land 1 5 1 2;");
        moreIs(x, 209, 1, 2, 4);
        moreIs(x, 0, 2, 4, 1);
        // Land 0 gives good 1, land 1 gives good 2: 2/5 and 1/5.
        moreIs(x, 17, 4, 1, 2);
        moreIs(x, 17, 7, 7, 7);
        x = Due.worldOf("good 1;good 1;good 1;land 1 2 1 5;land 1 5 2 1;land 1 1 5 2;");
        moreIs(x, 153, 1, 2, 4);
        x = Due.worldOf("good 1;good 1;land 1 1 2;land 1 3 3;land 1 2 1;");
        moreIs(x, 25, 4, 1);
        moreIs(x, 0, 1, 4);
        x = Due.worldOf("good 1;good 1;land 1 3 3;land 1 1 2;land 1 2 1;");
        moreIs(x, 26, 4, 2);
        moreIs(x, Due.BAD, 8, 1);
    }

    private static void stays() {
        LandGoods x = Due.worldOf(TIED);
        DUE.is("16: the maker at no freight", x.stays(0, 0, 0), 1);
        DUE.is("16: too little freight", x.stays(1, 0, 699), 0);
        DUE.is("16: just enough", x.stays(1, 0, 700), 1);
        DUE.is("16: the most", x.stays(1, 0, 900), 1);
        DUE.is("16: both make it", x.stays(1, 1, 0), 1);
        DUE.is("16: freight below", x.stays(0, 0, -1), Due.BAD);
        DUE.is("16: freight beyond", x.stays(0, 0, 901), Due.BAD);
        DUE.is("16: no such land", x.stays(2, 0, 0), Due.BAD);
        DUE.is("16: no such good", x.stays(0, 2, 0), Due.BAD);
        DUE.is("16: no such land below", x.stays(-1, 0, 0), Due.BAD);
        DUE.is("16: no such good below", x.stays(0, -1, 0), Due.BAD);
    }

    private static void learn() {
        LandGoods x = Due.worldOf(TIED);
        DUE.is("17: alike", x.learn(1, 1, 0), Due.BAD);
        DUE.is("17: no such land", x.learn(2, 0, 0), Due.BAD);
        DUE.is("17: none to learn by", x.learn(0, 2, 0), Due.BAD);
        DUE.is("17: no such good", x.learn(0, 1, 2), Due.BAD);
        DUE.is("17: below", x.learn(-1, 1, 0), Due.BAD);
        DUE.is("17: to learn by, below", x.learn(0, -1, 0), Due.BAD);
        DUE.is("17: good below", x.learn(0, 1, -1), Due.BAD);
        DUE.is("17: refused ones do not count", x.on(0), Due.STATE);
        DUE.is("17: a worse way", x.learn(0, 1, 0), 0);
        DUE.is("17: changes no hours", x.told(0, 0, 0), 1);
        DUE.is("17: a better way", x.learn(0, 1, 1), 1);
        DUE.is("17: hours then", x.told(0, 1, 0), 1);
        DUE.is("17: hours of the other", x.told(1, 1, 0), 1);
        DUE.is("17: wage then", x.wage(1, 0), 1);
        DUE.is("17: wage then, below", x.wage(1, 1), 1);
        DUE.is("17: nothing more to learn", x.learn(0, 1, 1), 0);
    }

    private static void on() {
        LandGoods x = new LandGoods();
        DUE.is("18: no world", x.on(0), Due.BAD);
        x = Due.worldOf(TIED);
        DUE.is("18: nothing learned", x.on(1), Due.STATE);
        DUE.is("18: no such land", x.on(2), Due.BAD);
        DUE.is("18: no such land below", x.on(-1), Due.BAD);
        x.learn(0, 1, 1);
        DUE.is("18: who learned gains", x.on(0), 1);
        DUE.is("18: the other is hurt", x.on(1), -1);
        x.learn(0, 0, 1);
        x.move(9);
        DUE.is("18: refused calls do not count", x.on(1), -1);
        x.learn(0, 1, 1);
        DUE.is("18: the latest one changed nothing", x.on(1), 0);
        x = Due.worldOf("good 1;good 1;good 1;land 10 1 3 1;land 10 3 4 2;");
        x.learn(1, 0, 0);
        DUE.is("18: both", x.on(0), 2);
        DUE.is("18: gains", x.on(1), 1);
        Due.feedText(x, TIED);
        x.world();
        DUE.is("18: another world", x.on(0), Due.STATE);
    }

    private static void edge() {
        LandGoods x = Due.worldOf(EACH_ITS_OWN);
        DUE.is("19: one more", x.edge(0, 0), 1);
        DUE.is("19: one fewer", x.edge(1, 0), -1);
        DUE.is("19: nothing is changed", x.told(1, 0, 0), 2);
        DUE.is("19: wage is as it was", x.wage(1, 0), 1);
        DUE.is("19: no such land", x.edge(2, 0), Due.BAD);
        DUE.is("19: no such good", x.edge(0, 2), Due.BAD);
        DUE.is("19: below", x.edge(-1, 0), Due.BAD);
        DUE.is("19: good below", x.edge(0, -1), Due.BAD);
        DUE.is("19: one good has all for makers", Due.worldOf("good 1;land 5 1;land 7 20;").edge(1, 0), LandGoods.NONE);
        // At 10 fewer both make good 0 at wages alike, as their hands and the goods' shares are alike.
        x = Due.worldOf("good 1;good 1;land 10 10 20;land 10 20 1;");
        DUE.is("19: ten", x.edge(1, 0), -10);
    }

    private static void handsAre(LandGoods x, int land, int hands) {
        DUE.is("20: hands of " + land, x.told(land, 0, 1), hands);
    }

    private static void move() {
        LandGoods x = new LandGoods();
        DUE.is("20: no world", x.move(1), Due.STATE);
        DUE.is("20: BAD ahead of it", x.move(0), Due.BAD);
        Due.feedText(x, TIED);
        x.world();
        DUE.is("20: none", x.move(0), Due.BAD);
        DUE.is("20: six", x.move(6), Due.BAD);
        DUE.is("20: below", x.move(-1), Due.BAD);
        DUE.is("20: nothing moved yet", x.on(0), Due.STATE);
        DUE.is("20: five go", x.move(5), 5);
        handsAre(x, 0, 5);
        handsAre(x, 1, 10);
        DUE.is("20: all hands are there", x.count(3), 15);
        DUE.is("20: wage, above", x.wage(1, 0), 3);
        DUE.is("20: wage, below", x.wage(1, 1), 2);
        DUE.is("20: beside the world ahead of all five", x.on(0), 1);
        DUE.is("20: and on the other", x.on(1), -1);
        DUE.is("20: one more goes, the next would earn less there", x.move(5), 1);
        handsAre(x, 0, 4);
        handsAre(x, 1, 11);
        DUE.is("20: none goes any more", x.move(1), 0);
        DUE.is("20: wages alike", Due.worldOf(EACH_ITS_OWN).move(3), 0);
        DUE.is("20: one hand does not go", Due.worldOf("good 1;land 5 1;land 1 20;").move(1), 0);
        DUE.is("20: no room for another", Due.worldOf("good 1;land 99 1;land 5 20;").move(1), 0);
        x = Due.worldOf("good 1;land 98 1;land 3 20;");
        DUE.is("20: room for one", x.move(2), 1);
        handsAre(x, 0, 99);
        x = Due.worldOf("good 1;land 10 2;land 10 1;land 10 1;");
        DUE.is("20: of several the least number", x.move(1), 1);
        handsAre(x, 1, 11);
        handsAre(x, 2, 10);
        x = Due.worldOf("good 1;land 10 2;land 10 2;land 10 1;");
        DUE.is("20: of several the least number that is left", x.move(1), 1);
        handsAre(x, 0, 9);
        handsAre(x, 1, 10);
    }

    /** "the least first, of several by numbers", "NONE: not so many": with as many GOODS as there can be. */
    private static void chainOfSix() {
        LandGoods x = Due.worldOf("good 1;good 1;good 1;good 1;good 1;good 1;land 9 20 2 1 3 6 1;land 9 1 4 2 6 4 20;");
        int[] chain = {5, 1, 2, 3, 4, 0};
        int[] back = {0, 4, 1, 2, 3, 5};
        for (int i = 0; i < 6; i++) {
            DUE.is("14: chain(0, 1, " + i + ")", x.chain(0, 1, i), chain[i]);
            DUE.is("14: chain(1, 0, " + i + ")", x.chain(1, 0, i), back[i]);
        }
        DUE.is("14: not so many", x.chain(0, 1, 6), LandGoods.NONE);
        DUE.is("14: not so many by far", x.chain(0, 1, Integer.MAX_VALUE), LandGoods.NONE);
        DUE.is("14: below the cut", x.chain(0, 1, -2), Due.BAD);
        DUE.is("14: far below the cut", x.chain(0, 1, Integer.MIN_VALUE), Due.BAD);
        x = Due.worldOf("good 1;land 1 1;land 1 1;");
        DUE.is("14: the only one", x.chain(0, 1, 0), 0);
        DUE.is("14: not two", x.chain(0, 1, 1), LandGoods.NONE);
    }

    /** "how many GOODS a makes alone, twice, and 1, if there are some that both make": the least and the most. */
    private static void theCut() {
        String six = "good 1;good 1;good 1;good 1;good 1;good 1;";
        LandGoods x = Due.worldOf(six + "land 1 1 2 3 4 5 6;land 99 1 1 1 1 1 1;land 99 6 5 4 3 2 1;");
        // A hand of land 0 earns 99 times 1/594 at most: only what it is best at, and that both make.
        DUE.is("14: a small land", x.chain(0, 1, -1), 1);
        DUE.is("14: beside it the great one", x.chain(1, 0, -1), 11);
        DUE.is("14: LAND 2 ahead of LAND 0", x.chain(2, 0, -1), 11);
        DUE.is("14: LAND 0 ahead of LAND 2", x.chain(0, 2, -1), 1);
        x = Due.worldOf(six + "land 50 1 1 1 1 1 1;land 10 2 2 2 2 2 2;");
        DUE.is("14: both make all, which counts once", x.chain(0, 1, -1), 1);
        DUE.is("14: either way", x.chain(1, 0, -1), 1);
        x = Due.worldOf(six + "land 10 1 1 1 1 1 20;land 10 20 20 20 20 20 1;");
        DUE.is("14: five alone, none by both", x.chain(0, 1, -1), 10);
        DUE.is("14: one alone, none by both", x.chain(1, 0, -1), 2);
        x = Due.worldOf("good 1;good 1;land 10 1 1;land 10 2 1;");
        DUE.is("14: one alone, and one that both can make", x.chain(0, 1, -1), 3);
        DUE.is("14: none alone", x.chain(1, 0, -1), 1);
    }

    /** "multiplied over the RING, are less than 1": just 1 is not, the least less is. */
    private static void lessThanOneIsNotOne() {
        LandGoods x = Due.worldOf("good 1;good 1;land 1 20 10;land 1 18 9;");
        for (int spread = 1; spread <= 9; spread++) {
            moreIs(x, 0, 1 + (spread - 1) % 3, 1 + (spread - 1) / 3);
        }
        // 19/20 and 20/19: as much. 19/20 and 19/18: more. 18/20 and 20/19: less.
        moreIs(Due.worldOf("good 1;good 1;land 1 20 20;land 1 19 19;"), 0, 1, 2);
        moreIs(Due.worldOf("good 1;good 1;land 1 20 19;land 1 19 18;"), 0, 1, 2);
        moreIs(Due.worldOf("good 1;good 1;land 1 20 20;land 1 18 19;"), 17, 1, 2);
        moreIs(Due.worldOf("good 1;good 1;land 1 20 19;land 1 19 19;"), 17, 1, 2);
        // Each of three makes a good, and the next one is as good at it; the one ahead of it takes twice the hours, so
        // that no two of them can make more.
        String three = "good 1;good 1;good 1;";
        moreIs(Due.worldOf(three + "land 1 10 20 10;land 1 10 10 20;land 1 20 10 10;"), 0, 1, 2, 4);
        moreIs(Due.worldOf(three + "land 1 10 20 10;land 1 9 10 20;land 1 20 10 10;"), 209, 1, 2, 4);
        moreIs(Due.worldOf(three + "land 1 10 20 10;land 1 10 10 20;land 1 20 9 10;"), 209, 1, 2, 4);
        moreIs(Due.worldOf(three + "land 1 10 20 9;land 1 10 10 20;land 1 20 10 10;"), 209, 1, 2, 4);
        moreIs(Due.worldOf(three + "land 1 10 10 20;land 1 20 10 10;land 1 10 20 10;"), 0, 1, 2, 4);
        moreIs(Due.worldOf(three + "land 1 10 9 20;land 1 20 10 10;land 1 10 20 10;"), 153, 1, 2, 4);
        moreIs(Due.worldOf(three + "land 1 10 10 20;land 1 20 10 9;land 1 10 20 10;"), 153, 1, 2, 4);
        moreIs(Due.worldOf(three + "land 1 10 10 20;land 1 20 10 10;land 1 9 20 10;"), 153, 1, 2, 4);
        moreIs(Due.worldOf(three + "land 1 20 20 20;land 1 20 20 20;land 1 20 20 20;"), 0, 7, 7, 7);
    }

    /** "by GOODS that make it least": by how they are to one another, not by how far they lie apart, in any order. */
    private static void byGoodsThatMakeItLeast() {
        // Land 0 gives a good of 1/2, not one of 15/20; land 1 gives one of 3/2: by the other good it would be 9/8.
        LandGoods x = Due.worldOf("good 1;good 1;good 1;land 1 2 20 3;land 1 1 15 2;");
        moreIs(x, 17, 1, 1, 2);
        moreIs(x, 17, 3, 3, 2);
        moreIs(x, 0, 2, 1, 2);
        x = Due.worldOf("good 1;good 1;good 1;land 1 20 3 2;land 1 15 2 1;");
        moreIs(x, 17, 1, 2, 1);
        moreIs(x, 0, 1, 2, 2);
        // The same for the one that gives back.
        x = Due.worldOf("good 1;good 1;good 1;land 1 1 15 2;land 1 2 20 3;");
        moreIs(x, 17, 2, 2, 1);
        moreIs(x, 0, 1, 2, 1);
    }

    /** "of several the least", and which goods a LAND can give: those that it makes, whoever else does. */
    private static void ofSeveralRingsTheLeast() {
        // Each of the three pairs makes more, each with the other's best good.
        LandGoods x = Due.worldOf("good 1;good 1;good 1;land 1 1 9 9;land 1 9 1 9;land 1 9 9 1;");
        moreIs(x, 17, 7, 7, 7);
        moreIs(x, 17, 2, 1, 4);
        moreIs(x, 25, 4, 2, 1);
        moreIs(x, 26, 1, 4, 2);
        moreIs(x, 0, 1, 2, 4);
        // Two that make more come ahead of three, and need not both be better at what they take.
        moreIs(x, 17, 2, 4, 1);
        moreIs(x, 17, 4, 1, 2);
        moreIs(x, 17, 3, 3, 4);
        moreIs(x, 17, 3, 1, 1);
        moreIs(x, 25, 5, 2, 5);
        moreIs(x, 26, 1, 6, 6);
        // One of the two has nothing to give.
        moreIs(x, 0, 1, 1, 1);
        moreIs(x, 0, 4, 4, 4);
        moreIs(Due.worldOf("good 1;land 1 20;"), 0, 1);
    }

    /** "the set of LANDS that make it, none empty": of each GOOD, either side of each bound. */
    private static void spreadsAsTold() {
        String[] lands = {"land 1 1 1;", "land 1 1 1;land 1 1 1;", "land 1 1 1;land 1 1 1;land 1 1 1;"};
        for (int n = 1; n <= 3; n++) {
            LandGoods x = Due.worldOf("good 1;good 1;" + lands[n - 1]);
            int all = (1 << n) - 1;
            for (int good = 0; good < 2; good++) {
                for (int v : new int[] {Integer.MIN_VALUE, -1, 0, 1, all, all + 1, Integer.MAX_VALUE}) {
                    Due.fill(x, 0, 1, 1);
                    x.set(0, good, v);
                    DUE.is("15: a set " + v + " of " + n + " lands", x.more(0, 0), v >= 1 && v <= all ? 0 : Due.BAD);
                }
            }
            for (int items = 0; items <= 4; items++) {
                Due.fill(x, 0, java.util.Arrays.copyOf(new int[] {1, 1, 1, 1}, items));
                for (int i = -1; i <= items + 1; i++) {
                    boolean fits = i >= 0 && i + 2 <= items;
                    DUE.is("15: " + items + " items from " + i, x.more(0, i), fits ? 0 : Due.PLACE);
                }
            }
            Due.fill(x, 0, 0, 1, 1, 0);
            DUE.is("15: items beside them", x.more(0, 1), 0);
            DUE.is("15: the one ahead", x.more(0, 0), Due.BAD);
            DUE.is("15: the one behind", x.more(0, 2), Due.BAD);
        }
    }

    /** "HOURS times WAGE there is no more than its PRICE and f hundredths of it", "(0 to 900)". */
    private static void staysIfNoMore() {
        LandGoods x = Due.worldOf("good 1;good 1;land 10 1 20;land 10 10 1;");
        DUE.is("16: ten times, at 899", x.stays(1, 0, 899), 0);
        DUE.is("16: ten times, at 900", x.stays(1, 0, 900), 1);
        DUE.is("16: at 901", x.stays(1, 0, 901), Due.BAD);
        DUE.is("16: at -1", x.stays(0, 0, -1), Due.BAD);
        DUE.is("16: twenty times, at 900", x.stays(0, 1, 900), 0);
        DUE.is("16: eleven times, at 900", Due.worldOf("good 1;good 1;land 10 1 20;land 10 11 1;").stays(1, 0, 900), 0);
        x = Due.worldOf("good 1;good 1;land 10 20 20;land 10 20 19;land 10 19 20;");
        for (int good = 0; good < 2; good++) {
            for (int land = 0; land < 3; land++) {
                boolean makes = (x.price(good, 2) >> land & 1) == 1;
                DUE.is("16: at no freight its MAKERS alone", x.stays(land, good, 0), makes ? 1 : 0);
            }
        }
        // 4/3 of the price: 33 hundredths more are too few, 34 are enough.
        x = Due.worldOf("good 1;good 1;good 1;good 1;land 10 1 2 3 4;land 10 4 4 4 4;");
        DUE.is("16: a third more, at 33", x.stays(0, 3, 33), 0);
        DUE.is("16: a third more, at 34", x.stays(0, 3, 34), 1);
        DUE.is("16: half as much more, at 49", x.stays(1, 1, 49), 0);
        DUE.is("16: half as much more, at 50", x.stays(1, 1, 50), 1);
    }

    /** "is given the HOURS of another one for a GOOD, where these are fewer": more, as many, one fewer, 19 fewer. */
    private static void learnWhereTheseAreFewer() {
        LandGoods x = Due.worldOf("good 1;good 1;good 1;good 1;land 10 5 5 5 1;land 10 6 5 4 20;land 10 7 7 7 7;");
        DUE.is("17: one more", x.learn(0, 1, 0), 0);
        DUE.is("17: as many", x.learn(0, 1, 1), 0);
        for (int good = 0; good < 4; good++) {
            DUE.is("17: hours are as they were", x.told(0, good, 0), new int[] {5, 5, 5, 1}[good]);
        }
        DUE.is("17: one fewer", x.learn(0, 1, 2), 1);
        DUE.is("17: nineteen fewer", x.learn(1, 0, 3), 19);
        int[][] hours = {{5, 5, 4, 1}, {6, 5, 4, 1}, {7, 7, 7, 7}};
        for (int land = 0; land < 3; land++) {
            for (int good = 0; good < 4; good++) {
                DUE.is("17: hours of " + land + " and " + good, x.told(land, good, 0), hours[land][good]);
            }
            DUE.is("17: hands stay", x.told(land, 0, 1), 10);
        }
        DUE.is("17: of the third", x.learn(2, 1, 2), 3);
        DUE.is("17: and by the third, nothing", x.learn(1, 2, 2), 0);
        DUE.is("17: nothing is left to learn", x.learn(1, 0, 3), 0);
    }

    /** "of the latest learn(), or move(), of this WORLD that was not refused, beside the WORLD ahead of it". */
    private static void onTheLatestOfThisWorld() {
        LandGoods x = Due.worldOf(TIED);
        x.learn(0, 1, 1);
        DUE.is("18: learned", x.on(1), -1);
        DUE.is("18: wages are alike now, none goes", x.move(1), 0);
        DUE.is("18: a move() of none is the latest", x.on(1), 0);
        x = Due.worldOf(TIED);
        DUE.is("18: five go", x.move(5), 5);
        DUE.is("18: on whom they came to", x.on(1), -1);
        x.learn(1, 0, 1);
        DUE.is("18: a learn() of nothing is the latest", x.on(1), 0);
        DUE.is("18: one goes", x.move(1), 1);
        DUE.is("18: and that is the latest", x.on(1), -1);
        Due.feedText(x, TIED + "?");
        DUE.is("18: a fault", x.world(), LandGoods.NOT - 100 - TIED.length());
        DUE.is("18: this WORLD stays", x.on(1), -1);
        Due.feedText(x, TIED);
        x.world();
        DUE.is("18: another WORLD, alike as it is", x.on(1), Due.STATE);
        x.learn(1, 1, 0);
        x.move(0);
        x.move(6);
        x.learn(0, 2, 0);
        DUE.is("18: what is refused does not count", x.on(1), Due.STATE);
        DUE.is("18: a learn() of nothing", x.learn(1, 0, 1), 0);
        DUE.is("18: counts", x.on(1), 0);
        x = Due.worldOf("good 1;land 1 1;");
        DUE.is("18: one land, nothing moved", x.on(0), Due.STATE);
        x.move(1);
        DUE.is("18: one land, none went", x.on(0), 0);
    }

    /** "the least d (1 to 19)", "(within 1 to 20)": as far as it goes either way, and what would lie beyond. */
    private static void edgeWithinOneToTwenty() {
        // Wages are alike; at 20 hours each both make it.
        LandGoods x = Due.worldOf("good 1;good 1;land 10 1 20;land 10 20 1;");
        DUE.is("19: nineteen more", x.edge(0, 0), 19);
        DUE.is("19: nineteen fewer", x.edge(1, 0), -19);
        DUE.is("19: nineteen more of the other", x.edge(1, 1), 19);
        DUE.is("19: nineteen fewer of the other", x.edge(0, 1), -19);
        // The wage of land 1 is a little more, so that it would be at 22 and a bit only.
        x = Due.worldOf("good 1;good 1;land 10 1 20;land 9 20 1;");
        DUE.is("19: none within", x.edge(0, 0), LandGoods.NONE);
        DUE.is("19: none within, fewer", x.edge(1, 0), LandGoods.NONE);
        x = Due.worldOf("good 1;good 1;land 10 19 20;land 10 20 1;");
        DUE.is("19: 20 is within", x.edge(0, 0), 1);
        // 21 hours would be as dear as 20 in land 1, whose wage is 21/20.
        x = Due.worldOf("good 1;good 1;land 21 20 20;land 20 20 1;");
        DUE.is("19: 21 is not within", x.edge(0, 0), LandGoods.NONE);
        x = Due.worldOf("good 1;good 1;land 10 1 20;land 10 2 1;");
        DUE.is("19: 1 is within", x.edge(1, 0), -1);
        x = Due.worldOf("good 1;good 1;land 10 1 20;land 5 1 1;");
        DUE.is("19: 0 is not within", x.edge(1, 0), LandGoods.NONE);
        DUE.is("19: a land alone", Due.worldOf("good 1;good 1;land 1 1 20;").edge(0, 1), LandGoods.NONE);
    }

    /** "d, if it is so with more, else 0 less d", and that the least d is told, be it with fewer. */
    private static void edgeWithMoreAheadOfFewer() {
        LandGoods x = Due.worldOf("good 1;good 1;land 9 2 5;land 9 2 5;");
        for (int land = 0; land < 2; land++) {
            DUE.is("19: with one more, and with one fewer", x.edge(land, 0), 1);
            DUE.is("19: with one more, and with one fewer", x.edge(land, 1), 1);
        }
        x = Due.worldOf("good 1;good 1;land 9 20 5;land 9 20 5;");
        DUE.is("19: one more is not within", x.edge(0, 0), -1);
        x = Due.worldOf("good 1;good 1;land 9 1 5;land 9 1 5;");
        DUE.is("19: one fewer is not within", x.edge(0, 0), 1);
        x = Due.worldOf("good 1;good 1;land 10 4 20;land 10 7 1;");
        DUE.is("19: three more", x.edge(0, 0), 3);
        DUE.is("19: three fewer", x.edge(1, 0), -3);
        for (int land = 0; land < 2; land++) {
            DUE.is("19: hours stay", x.told(land, 0, 0), 4 + 3 * land);
        }
        // MAKERS of another GOOD may change by it: only those of this one count.
        DUE.is("19: of this GOOD alone", Due.worldOf("good 1;land 5 3;land 7 4;land 9 5;").edge(2, 0), LandGoods.NONE);
    }

    /** "n times": no more than n go, from 1 to 5. */
    private static void moveUpToNTimes() {
        for (int n = 1; n <= 5; n++) {
            LandGoods x = Due.worldOf("good 1;land 50 1;land 50 2;");
            DUE.is("20: move(" + n + ")", x.move(n), n);
            handsAre(x, 0, 50 + n);
            handsAre(x, 1, 50 - n);
            DUE.is("20: all hands", x.count(3), 100);
        }
        LandGoods x = Due.worldOf("good 1;land 50 1;land 50 2;");
        DUE.is("20: move(0)", x.move(0), Due.BAD);
        DUE.is("20: move(6)", x.move(6), Due.BAD);
        handsAre(x, 0, 50);
    }

    /** Each thing that keeps a HAND where it is, on either side. */
    private static void moveAsLongAsItCanBe() {
        LandGoods x = Due.worldOf("good 1;land 50 1;land 2 2;");
        DUE.is("20: of 2 HANDS one goes", x.move(5), 1);
        handsAre(x, 1, 1);
        DUE.is("20: the last one stays", x.move(5), 0);
        handsAre(x, 1, 1);
        x = Due.worldOf("good 1;land 97 1;land 50 2;");
        DUE.is("20: up to 99 HANDS", x.move(5), 2);
        handsAre(x, 0, 99);
        handsAre(x, 1, 48);
        // Wages are by hands here, as each land has one of two goods of like shares.
        x = Due.worldOf("good 1;good 1;land 11 1 20;land 9 20 1;");
        DUE.is("20: wages alike behind it, it goes, and none any more", x.move(5), 1);
        handsAre(x, 0, 10);
        handsAre(x, 1, 10);
        x = Due.worldOf("good 1;good 1;land 10 1 20;land 9 20 1;");
        DUE.is("20: less behind it, it stays", x.move(5), 0);
        handsAre(x, 0, 10);
        handsAre(x, 1, 9);
        DUE.is("20: and the wage stays", x.wage(1, 0), 10);
        DUE.is("20: and the wage stays, below", x.wage(1, 1), 9);
        x = Due.worldOf("good 1;good 1;land 12 1 20;land 9 20 1;");
        DUE.is("20: one goes, the next one would earn less", x.move(5), 1);
        handsAre(x, 0, 11);
        handsAre(x, 1, 10);
        DUE.is("20: wages alike", Due.worldOf("good 1;land 9 3;land 9 3;land 5 3;").move(5), 0);
        DUE.is("20: one land", Due.worldOf("good 1;land 9 3;").move(5), 0);
        // From the least to the greatest, whatever numbers they have, the one between stays as it is.
        x = Due.worldOf("good 1;land 10 2;land 10 3;land 10 1;");
        DUE.is("20: from 1 to 2", x.move(3), 3);
        handsAre(x, 0, 10);
        handsAre(x, 1, 7);
        handsAre(x, 2, 13);
        // The land of the least wage has but one hand: no other land's hand goes in its place.
        x = Due.worldOf("good 1;land 10 2;land 1 3;land 10 1;");
        DUE.is("20: no other one in its place", x.move(1), 0);
        x = Due.worldOf("good 1;land 10 2;land 10 3;land 99 1;");
        DUE.is("20: to no other one in its place", x.move(1), 0);
    }
}
