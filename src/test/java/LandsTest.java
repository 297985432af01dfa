/** Promises 14 to 20: lands beside lands. */
public final class LandsTest {
    private static final Due DUE = new Due();
    private static final String TIED = "good 1;good 3;land 10 1 2;land 5 4 1;";
    private static final String EACH_ITS_OWN = "good 1;good 1;land 10 1 2;land 10 2 1;";

    public static void main(String[] args) {
        chain();
        more();
        moreOfThree();
        stays();
        learn();
        on();
        edge();
        move();
        DUE.end("LandsTest");
    }

    private static void chain() {
        LandGoods x = Due.worldOf(TIED);
        DUE.is("14: the first", x.chain(0, 1, 0), 0);
        DUE.is("14: the second", x.chain(0, 1, 1), 1);
        DUE.is("14: no third", x.chain(0, 1, 2), LandGoods.NONE);
        DUE.is("14: none so far off", x.chain(0, 1, Integer.MAX_VALUE), LandGoods.NONE);
        DUE.is("14: the cut", x.chain(0, 1, -1), 3);
        DUE.is("14: the other way, the first", x.chain(1, 0, 0), 1);
        DUE.is("14: the other way, the cut", x.chain(1, 0, -1), 1);
        DUE.is("14: below the cut", x.chain(0, 1, -2), Due.BAD);
        DUE.is("14: lands alike", x.chain(1, 1, 0), Due.BAD);
        DUE.is("14: no such land", x.chain(0, 2, 0), Due.BAD);
        DUE.is("14: no such land below", x.chain(-1, 0, 0), Due.BAD);
        DUE.is("14: BAD ahead of NONE", x.chain(0, 2, 9), Due.BAD);
        DUE.is("14: the cut between two", Due.worldOf(EACH_ITS_OWN).chain(0, 1, -1), 2);
        x = Due.worldOf("good 1;good 1;good 1;land 9 4 2 6;land 9 2 1 3;land 1 1 1 1;");
        for (int i = 0; i < 3; i++) {
            DUE.is("14: alike ones by numbers", x.chain(1, 0, i), i);
        }
        DUE.is("14: all by both", x.chain(0, 1, -1), 1);
        // Alone, 10 hands at 1 earn as much as 10 at 1: the third land, that makes all cheaper, is as if not there.
        x = Due.worldOf("good 1;good 1;land 10 1 2;land 10 2 1;land 99 1 1;");
        DUE.is("14: as if there were no other", x.chain(0, 1, -1), 2);
    }

    private static void moreIs(LandGoods x, long want, int... spread) {
        Due.fill(x, 0, spread);
        DUE.is("15: more of " + java.util.Arrays.toString(spread), x.more(0, 0), want);
    }

    private static void more() {
        LandGoods x = new LandGoods();
        DUE.is("15: no row", x.more(-1, 0), Due.BAD);
        DUE.is("15: no world", x.more(0, 0), Due.STATE);
        Due.feedText(x, EACH_ITS_OWN);
        x.world();
        DUE.is("15: a missing row", x.more(0, 0), Due.NULL);
        moreIs(x, 0, 1, 2);
        moreIs(x, 17, 2, 1);
        moreIs(x, 17, 3, 3);
        moreIs(x, 0, 1, 1);
        moreIs(x, 0, 1, 3);
        moreIs(x, Due.BAD, 0, 1);
        moreIs(x, Due.BAD, 1, 4);
        moreIs(x, Due.BAD, -1, 1);
        moreIs(x, Due.PLACE, 1);
        Due.fill(x, 0, 0, 2, 1, 0);
        DUE.is("15: items from 1 on", x.more(0, 1), 17);
        DUE.is("15: items from 0 on", x.more(0, 0), Due.BAD);
        DUE.is("15: items from 3 on", x.more(0, 3), Due.PLACE);
        DUE.is("15: items from below", x.more(0, -1), Due.PLACE);
        DUE.is("15: items from far off", x.more(0, Integer.MAX_VALUE), Due.PLACE);
    }

    private static void moreOfThree() {
        LandGoods x = Due.worldOf("good 1;good 1;good 1;land 1 2 5 1;land 1 1 2 5;land 1 5 1 2;");
        moreIs(x, 209, 1, 2, 4);
        moreIs(x, 0, 2, 4, 1);
        // Land 0 gives good 1, land 1 gives good 2: 2/5 and 1/5.
        moreIs(x, 17, 4, 1, 2);
        moreIs(x, 17, 7, 7, 7);
        x = Due.worldOf("good 1;good 1;good 1;land 1 2 1 5;land 1 5 2 1;land 1 1 5 2;");
        moreIs(x, 153, 1, 2, 4);
        x = Due.worldOf("good 1;good 1;land 1 1 2;land 1 3 3;land 1 2 1;");
        moreIs(x, 25, 4, 1);
        moreIs(x, 0, 1, 4);
        x = Due.worldOf("good 1;good 1;land 1 3 3;land 1 1 2;land 1 2 1;");
        moreIs(x, 26, 4, 2);
        moreIs(x, Due.BAD, 8, 1);
    }

    private static void stays() {
        LandGoods x = Due.worldOf(TIED);
        DUE.is("16: the maker at no freight", x.stays(0, 0, 0), 1);
        DUE.is("16: too little freight", x.stays(1, 0, 699), 0);
        DUE.is("16: just enough", x.stays(1, 0, 700), 1);
        DUE.is("16: the most", x.stays(1, 0, 900), 1);
        DUE.is("16: both make it", x.stays(1, 1, 0), 1);
        DUE.is("16: freight below", x.stays(0, 0, -1), Due.BAD);
        DUE.is("16: freight beyond", x.stays(0, 0, 901), Due.BAD);
        DUE.is("16: no such land", x.stays(2, 0, 0), Due.BAD);
        DUE.is("16: no such good", x.stays(0, 2, 0), Due.BAD);
        DUE.is("16: no such land below", x.stays(-1, 0, 0), Due.BAD);
        DUE.is("16: no such good below", x.stays(0, -1, 0), Due.BAD);
    }

    private static void learn() {
        LandGoods x = Due.worldOf(TIED);
        DUE.is("17: alike", x.learn(1, 1, 0), Due.BAD);
        DUE.is("17: no such land", x.learn(2, 0, 0), Due.BAD);
        DUE.is("17: none to learn by", x.learn(0, 2, 0), Due.BAD);
        DUE.is("17: no such good", x.learn(0, 1, 2), Due.BAD);
        DUE.is("17: below", x.learn(-1, 1, 0), Due.BAD);
        DUE.is("17: to learn by, below", x.learn(0, -1, 0), Due.BAD);
        DUE.is("17: good below", x.learn(0, 1, -1), Due.BAD);
        DUE.is("17: refused ones do not count", x.on(0), Due.STATE);
        DUE.is("17: a worse way", x.learn(0, 1, 0), 0);
        DUE.is("17: changes no hours", x.told(0, 0, 0), 1);
        DUE.is("17: a better way", x.learn(0, 1, 1), 1);
        DUE.is("17: hours then", x.told(0, 1, 0), 1);
        DUE.is("17: hours of the other", x.told(1, 1, 0), 1);
        DUE.is("17: wage then", x.wage(1, 0), 1);
        DUE.is("17: wage then, below", x.wage(1, 1), 1);
        DUE.is("17: nothing more to learn", x.learn(0, 1, 1), 0);
    }

    private static void on() {
        LandGoods x = new LandGoods();
        DUE.is("18: no world", x.on(0), Due.BAD);
        x = Due.worldOf(TIED);
        DUE.is("18: nothing learned", x.on(1), Due.STATE);
        DUE.is("18: no such land", x.on(2), Due.BAD);
        DUE.is("18: no such land below", x.on(-1), Due.BAD);
        x.learn(0, 1, 1);
        DUE.is("18: who learned gains", x.on(0), 1);
        DUE.is("18: the other is hurt", x.on(1), -1);
        x.learn(0, 0, 1);
        x.move(9);
        DUE.is("18: refused calls do not count", x.on(1), -1);
        x.learn(0, 1, 1);
        DUE.is("18: the latest one changed nothing", x.on(1), 0);
        x = Due.worldOf("good 1;good 1;good 1;land 10 1 3 1;land 10 3 4 2;");
        x.learn(1, 0, 0);
        DUE.is("18: both", x.on(0), 2);
        DUE.is("18: gains", x.on(1), 1);
        Due.feedText(x, TIED);
        x.world();
        DUE.is("18: another world", x.on(0), Due.STATE);
    }

    private static void edge() {
        LandGoods x = Due.worldOf(EACH_ITS_OWN);
        DUE.is("19: one more", x.edge(0, 0), 1);
        DUE.is("19: one fewer", x.edge(1, 0), -1);
        DUE.is("19: nothing is changed", x.told(1, 0, 0), 2);
        DUE.is("19: wage is as it was", x.wage(1, 0), 1);
        DUE.is("19: no such land", x.edge(2, 0), Due.BAD);
        DUE.is("19: no such good", x.edge(0, 2), Due.BAD);
        DUE.is("19: below", x.edge(-1, 0), Due.BAD);
        DUE.is("19: good below", x.edge(0, -1), Due.BAD);
        DUE.is("19: one good has all for makers", Due.worldOf("good 1;land 5 1;land 7 20;").edge(1, 0), LandGoods.NONE);
        // At 10 fewer both make good 0 at wages alike, as their hands and the goods' shares are alike.
        x = Due.worldOf("good 1;good 1;land 10 10 20;land 10 20 1;");
        DUE.is("19: ten", x.edge(1, 0), -10);
    }

    private static void handsAre(LandGoods x, int land, int hands) {
        DUE.is("20: hands of " + land, x.told(land, 0, 1), hands);
    }

    private static void move() {
        LandGoods x = new LandGoods();
        DUE.is("20: no world", x.move(1), Due.STATE);
        DUE.is("20: BAD ahead of it", x.move(0), Due.BAD);
        Due.feedText(x, TIED);
        x.world();
        DUE.is("20: none", x.move(0), Due.BAD);
        DUE.is("20: six", x.move(6), Due.BAD);
        DUE.is("20: below", x.move(-1), Due.BAD);
        DUE.is("20: nothing moved yet", x.on(0), Due.STATE);
        DUE.is("20: five go", x.move(5), 5);
        handsAre(x, 0, 5);
        handsAre(x, 1, 10);
        DUE.is("20: all hands are there", x.count(3), 15);
        DUE.is("20: wage, above", x.wage(1, 0), 3);
        DUE.is("20: wage, below", x.wage(1, 1), 2);
        DUE.is("20: beside the world ahead of all five", x.on(0), 1);
        DUE.is("20: and on the other", x.on(1), -1);
        DUE.is("20: one more goes, the next would earn less there", x.move(5), 1);
        handsAre(x, 0, 4);
        handsAre(x, 1, 11);
        DUE.is("20: none goes any more", x.move(1), 0);
        DUE.is("20: wages alike", Due.worldOf(EACH_ITS_OWN).move(3), 0);
        DUE.is("20: one hand does not go", Due.worldOf("good 1;land 5 1;land 1 20;").move(1), 0);
        DUE.is("20: no room for another", Due.worldOf("good 1;land 99 1;land 5 20;").move(1), 0);
        x = Due.worldOf("good 1;land 98 1;land 3 20;");
        DUE.is("20: room for one", x.move(2), 1);
        handsAre(x, 0, 99);
        x = Due.worldOf("good 1;land 10 2;land 10 1;land 10 1;");
        DUE.is("20: of several the least number", x.move(1), 1);
        handsAre(x, 1, 11);
        handsAre(x, 2, 10);
        x = Due.worldOf("good 1;land 10 2;land 10 2;land 10 1;");
        DUE.is("20: of several the least number that is left", x.move(1), 1);
        handsAre(x, 0, 9);
        handsAre(x, 1, 10);
    }
}
