/** Promises 21 to 25: kinds, asks, the trace, counts. */
public final class AskedTest {
    private static final Due DUE = new Due();
    /** Good 0 is DEAR, good 1 is ALONE with land 1. */
    private static final String APART = "good 2;good 5;land 10 10 20;land 10 20 1;";
    /** Good 0 is HOME, good 1 is EVERY. */
    private static final String TIED = "good 1;good 3;land 10 1 2;land 5 4 1;";
    /** Good 0 is COMMON, good 1 is ALONE with land 2. */
    private static final String TWINS = "good 1;good 1;land 10 1 9;land 10 1 9;land 10 9 1;";

    public static void main(String[] args) {
        kind();
        kindsByHowManyLands();
        as();
        ask();
        askOfTheGreatest();
        trace();
        theTraceIsEmptyAhead();
        count();
        theMostThereCanBe();
        DUE.end("AskedTest");
    }

    private static void kind() {
        DUE.is("21: DEAR", Due.worldOf(APART).kind(0), 5);
        DUE.is("21: ALONE", Due.worldOf(APART).kind(1), 1);
        DUE.is("21: HOME", Due.worldOf(TIED).kind(0), 4);
        DUE.is("21: EVERY", Due.worldOf(TIED).kind(1), 3);
        DUE.is("21: COMMON", Due.worldOf(TWINS).kind(0), 2);
        DUE.is("21: no such good", Due.worldOf(TWINS).kind(2), Due.BAD);
        DUE.is("21: no such good below", Due.worldOf(TWINS).kind(-1), Due.BAD);
        DUE.is("21: a PRICE of 9 is not DEAR", Due.worldOf("good 1;land 1 9;").kind(0), 4);
        DUE.is("21: a PRICE of 10 is", Due.worldOf("good 1;land 1 10;").kind(0), 5);
        DUE.is("21: no world", new LandGoods().kind(0), Due.BAD);
    }

    /** Of a good all kinds, as bits, that it is taken as. */
    private static long kindsOf(LandGoods x, int good) {
        long bits = 0;
        for (int kind = 0; kind <= 5; kind++) {
            long answer = x.as(good, kind);
            if (answer == good) {
                bits |= 1L << kind;
            } else {
                DUE.is("22: as(" + good + ", " + kind + ")", answer, Due.KIND);
            }
        }
        return bits;
    }

    private static void as() {
        DUE.is("22: DEAR", kindsOf(Due.worldOf(APART), 0), 0b110011);
        DUE.is("22: ALONE", kindsOf(Due.worldOf(APART), 1), 0b000011);
        DUE.is("22: HOME", kindsOf(Due.worldOf(TIED), 0), 0b010011);
        DUE.is("22: EVERY", kindsOf(Due.worldOf(TIED), 1), 0b001101);
        DUE.is("22: COMMON", kindsOf(Due.worldOf(TWINS), 0), 0b000101);
        LandGoods x = Due.worldOf(TWINS);
        DUE.is("22: no such good", x.as(2, 0), Due.BAD);
        DUE.is("22: no such good below", x.as(-1, 0), Due.BAD);
        DUE.is("22: no such kind", x.as(0, 6), Due.BAD);
        DUE.is("22: no such kind below", x.as(0, -1), Due.BAD);
    }

    private static void asked(String text, int good, int what, long want, int... bodies) {
        LandGoods x = Due.worldOf(text);
        // The trace of another ask must be gone.
        x.ask(good, 1 - what);
        String call = "ask(" + good + ", " + what + ") of '" + text + "'";
        DUE.is("23: " + call, x.ask(good, what), want);
        for (int i = 0; i < bodies.length; i++) {
            DUE.is("24: trace(" + i + ") of " + call, x.trace(i), bodies[i]);
        }
        DUE.is("24: the end of the trace of " + call, x.trace(bodies.length), LandGoods.NONE);
    }

    private static void ask() {
        asked(APART, 0, 0, 104, 15, 14, 11, 10, 23, 21, 20, 23, 21, 20);
        asked(APART, 0, 1, 100, 23, 21, 20);
        asked(APART, 1, 0, 16, 11, 10, 21, 20);
        asked(APART, 1, 1, 11, 21, 20);
        asked(TIED, 0, 0, 202, 14, 11, 10, 23, 21, 20);
        asked(TIED, 1, 0, 5, 13, 12, 10);
        asked(TIED, 1, 1, 6, 22, 20, 13, 12, 10);
        asked(TWINS, 0, 0, 2, 12, 10);
        asked(TWINS, 0, 1, 0, 20);
        asked(TWINS, 1, 0, 22, 11, 10, 21, 20);
        asked(TWINS, 1, 1, 21, 21, 20);
        LandGoods x = Due.worldOf(TWINS);
        DUE.is("23: no such good", x.ask(2, 0), Due.BAD);
        DUE.is("23: no such good below", x.ask(-1, 0), Due.BAD);
        DUE.is("23: no such ask", x.ask(0, 2), Due.BAD);
        DUE.is("23: no such ask below", x.ask(0, -1), Due.BAD);
    }

    private static void trace() {
        LandGoods x = Due.worldOf(TIED);
        x.ask(1, 1);
        DUE.is("24: below", x.trace(-1), LandGoods.NONE);
        DUE.is("24: beyond", x.trace(16), LandGoods.NONE);
        DUE.is("24: far beyond", x.trace(Integer.MAX_VALUE), LandGoods.NONE);
        x.ask(1, 2);
        DUE.is("24: what is refused leaves it", x.trace(0), 22);
        x.ask(0, 1);
        DUE.is("24: anew", x.trace(0), 23);
        DUE.is("24: shorter", x.trace(3), LandGoods.NONE);
    }

    private static void count() {
        LandGoods x = Due.worldOf(TWINS);
        x.row(3, 0, 4);
        x.row(5, 0, 0);
        x.feed(0, 5);
        DUE.is("25: rows", x.count(0), 2);
        DUE.is("25: lands", x.count(1), 3);
        DUE.is("25: goods", x.count(2), 2);
        DUE.is("25: hands", x.count(3), 30);
        DUE.is("25: common goods", x.count(4), 1);
        DUE.is("25: bytes", x.count(5), 5);
        DUE.is("25: no such", x.count(6), Due.BAD);
        DUE.is("25: no such below", x.count(-1), Due.BAD);
        DUE.is("25: EVERY ones are COMMON, too", Due.worldOf(TIED).count(4), 1);
        DUE.is("25: none is", Due.worldOf(APART).count(4), 0);
    }

    private static void kindIs(String text, int good, int kind) {
        DUE.is("21: kind(" + good + ") of '" + text + "'", Due.worldOf(text).kind(good), kind);
    }

    /** "It is told as the last that fits": by how many MAKERS of how many LANDS, and who. */
    private static void kindsByHowManyLands() {
        DUE.is("22: one land alone is not several", kindsOf(Due.worldOf("good 1;land 1 9;"), 0), 0b010011);
        DUE.is("22: one land alone, DEAR", kindsOf(Due.worldOf("good 1;land 1 10;"), 0), 0b110011);
        DUE.is("22: three of three", kindsOf(Due.worldOf("good 1;land 1 9;land 1 9;land 1 9;"), 0), 0b001101);
        kindIs("good 1;land 1 1;", 0, 4);
        kindIs("good 1;land 1 9;", 0, 4);
        kindIs("good 1;land 1 10;", 0, 5);
        kindIs("good 1;land 1 20;", 0, 5);
        kindIs("good 1;land 1 9;land 1 9;", 0, 3);
        kindIs("good 1;land 1 20;land 1 20;", 0, 3);
        kindIs("good 1;land 1 9;land 1 9;land 1 9;", 0, 3);
        String twoOfThree = "good 1;good 1;land 10 1 20;land 10 1 20;land 10 20 1;";
        kindIs(twoOfThree, 0, 2);
        kindIs(twoOfThree, 1, 1);
        String homeAndOthers = "good 1;good 2;land 10 9 20;land 10 20 1;land 10 20 1;";
        kindIs(homeAndOthers, 0, 4);
        kindIs(homeAndOthers, 1, 2);
        kindIs("good 1;good 2;land 10 10 20;land 10 20 1;land 10 20 1;", 0, 5);
        // A PRICE of 10 or more of another LAND's is not DEAR, as it is not HOME.
        kindIs("good 1;good 1;land 10 1 20;land 10 20 10;", 1, 1);
    }

    /** Greatest shares, numbers and makers. */
    private static void askOfTheGreatest() {
        String five = "good 20;good 20;good 20;good 20;good 20;";
        String one = five + "good 20;land 1 20 20 20 20 20 20;";
        asked(one, 5, 0, 145, 15, 14, 11, 10, 23, 21, 20, 23, 21, 20);
        asked(one, 5, 1, 105, 23, 21, 20);
        String home = five + "good 20;land 1 20 20 20 20 20 9;";
        asked(home, 5, 0, 250, 14, 11, 10, 23, 21, 20);
        String every = five + "good 20;land 9 1 1 1 1 1 1;land 9 1 1 1 1 1 1;land 9 1 1 1 1 1 1;";
        asked(every, 5, 0, 59, 13, 12, 10);
        asked(every, 5, 1, 64, 22, 20, 13, 12, 10);
        asked(every, 0, 0, 59, 13, 12, 10);
        asked(every, 0, 1, 59, 22, 20, 13, 12, 10);
        String alone = "good 20;good 20;good 20;land 10 1 20 20;land 10 20 1 20;land 10 20 20 1;";
        asked(alone, 2, 0, 42, 11, 10, 21, 20);
        asked(alone, 2, 1, 22, 21, 20);
        String common = "good 1;good 20;land 10 1 20;land 10 20 1;land 10 20 1;";
        asked(common, 1, 0, 40, 12, 10);
        asked(common, 1, 1, 1, 20);
        // By what is at rest now: what is learned makes a HOME good an EVERY one.
        LandGoods x = Due.worldOf("good 1;good 1;land 10 1 2;land 10 2 1;");
        DUE.is("21: ahead of learning", x.kind(0), 4);
        DUE.is("23: ahead of learning", x.ask(0, 0), 202);
        x.learn(1, 0, 0);
        DUE.is("21: behind learning", x.kind(0), 3);
        DUE.is("23: behind learning", x.ask(0, 0), 1);
        DUE.is("22: behind learning", x.as(0, 4), Due.KIND);
    }

    /** "THE TRACE is empty ahead of it", "NONE": behind its end, below it, and without any ask. */
    private static void theTraceIsEmptyAhead() {
        LandGoods x = new LandGoods();
        for (int i : new int[] {Integer.MIN_VALUE, -1, 0, 1, 15, 16, Integer.MAX_VALUE}) {
            DUE.is("24: trace(" + i + ") ahead of any ask", x.trace(i), LandGoods.NONE);
        }
        Due.feedText(x, APART);
        x.world();
        DUE.is("24: a world is no ask", x.trace(0), LandGoods.NONE);
        x.kind(0);
        x.as(0, 5);
        DUE.is("24: nor is kind() or as()", x.trace(0), LandGoods.NONE);
        for (int times = 0; times < 2; times++) {
            x.ask(0, 0);
            int[] bodies = {15, 14, 11, 10, 23, 21, 20, 23, 21, 20};
            for (int i = 0; i < bodies.length; i++) {
                DUE.is("24: the same ask, the same trace, " + i, x.trace(i), bodies[i]);
            }
            for (int i = bodies.length; i <= 17; i++) {
                DUE.is("24: behind its end, " + i, x.trace(i), LandGoods.NONE);
            }
        }
        x.ask(2, 0);
        x.ask(0, -1);
        DUE.is("24: what is refused leaves it", x.trace(9), 20);
        Due.feedText(x, TIED);
        x.world();
        x.move(1);
        x.learn(0, 1, 1);
        DUE.is("24: another world leaves it", x.trace(9), 20);
        x.ask(1, 0);
        DUE.is("24: the next ask does not", x.trace(3), LandGoods.NONE);
        DUE.is("24: and has its own", x.trace(0), 13);
    }

    /** The counts where they can go no further. */
    private static void theMostThereCanBe() {
        LandGoods x = Due.worldOf("good 1;good 1;good 1;good 1;good 1;good 1;"
                + "land 99 1 1 1 1 1 1;land 99 1 1 1 1 1 1;land 99 1 1 1 1 1 1;");
        for (int row = 0; row < 8; row++) {
            x.row(row, 0, 0);
        }
        for (int n = 0; n < 50; n++) {
            x.feed(0, 8);
        }
        long[] most = {8, 3, 6, 297, 6, 400};
        for (int what = 0; what <= 5; what++) {
            DUE.is("25: the most of " + what, x.count(what), most[what]);
        }
        x.drop(3);
        x.drop(3);
        DUE.is("25: one ROW fewer", x.count(0), 7);
        x.world();
        DUE.is("25: a tape that was read", x.count(5), 0);
        DUE.is("25: no such count", x.count(6), Due.BAD);
    }
}
