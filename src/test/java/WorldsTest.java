/** Promises 6 to 9: the tape, how it is read, faults, what is told. */
public final class WorldsTest {
    private static final Due DUE = new Due();

    public static void main(String[] args) {
        feed();
        worldsThatAreRead();
        faults();
        whereTheTapeEnds();
        aFaultLeavesTheWorld();
        told();
        DUE.end("WorldsTest");
    }

    private static void feed() {
        LandGoods x = new LandGoods();
        DUE.is("6: feed 0 bytes", x.feed(1, 0), Due.BAD);
        DUE.is("6: feed 9 bytes", x.feed(1, 9), Due.BAD);
        DUE.is("6: feed fewer than none", x.feed(1, -1), Due.BAD);
        for (int n = 1; n <= 49; n++) {
            DUE.is("6: feed 8 bytes", x.feed(0x2020202020202020L, 8), 8 * n);
        }
        DUE.is("6: feed 5 bytes", x.feed(0x2020202020L, 5), 397);
        DUE.is("6: feed 4 that do not fit", x.feed(0, 4), Due.FULL);
        DUE.is("6: feed BAD ahead of FULL", x.feed(0, 9), Due.BAD);
        DUE.is("6: none came", x.count(5), 397);
        DUE.is("6: feed 3 that fit", x.feed(0x202020L, 3), 400);
        DUE.is("6: feed 1 more", x.feed(0, 1), Due.FULL);
        DUE.is("6: blanks alone: the end has the fault", x.world(), LandGoods.NOT - 100 - 400);
        DUE.is("6: the tape is empty then", x.count(5), 0);
        DUE.is("6: only the lowest bytes come, the highest of them first", x.feed(0x7A7A7A676F6F64L, 4), 4);
        DUE.is("6: ' 5;'", x.feed(0x7A20353BL, 3), 7);
        DUE.is("6: 'land'", x.feed(0x7A6C616E64L, 4), 11);
        DUE.is("6: ' 7 3;'", x.feed(0x7A203720333BL, 5), 16);
        DUE.is("6: all of it is read", x.world(), 1);
        DUE.is("6: its hands", x.told(0, 0, 1), 7);
    }

    private static void read(String text, int lands) {
        LandGoods x = new LandGoods();
        Due.feedText(x, text);
        DUE.is("7: world() of '" + text + "'", x.world(), lands);
        DUE.is("7: tape behind '" + text + "'", x.count(5), 0);
        DUE.is("8: fault() of '" + text + "'", x.fault(), 0);
        DUE.is("7: lands of '" + text + "'", x.count(1), lands);
    }

    private static void worldsThatAreRead() {
        read("good 1;land 1 1;", 1);
        read("good 20;land 99 20;", 1);
        read(" \n good 5 \n;land\n7 3 ;  ", 1);
        read("good5;land7 3;", 1);
        read("good 05;land 07 03;land 01 01;", 2);
        read("good 1;good 2;good 3;good 4;good 5;good 6;land 1 1 2 3 4 5 6;land 2 1 2 3 4 5 6;land 3 1 2 3 4 5 6;", 3);
    }

    private static void broken(String text, int place, int number) {
        LandGoods x = new LandGoods();
        Due.feedText(x, text);
        DUE.is("7: world() of '" + text + "'", x.world(), LandGoods.NOT - 100 - place);
        DUE.is("8: fault() of '" + text + "'", x.fault(), number);
        DUE.is("7: tape behind '" + text + "'", x.count(5), 0);
        DUE.is("7: lands behind '" + text + "'", x.count(1), 0);
    }

    private static void faults() {
        broken("", 0, 1);
        broken("  ", 2, 1);
        broken("good 1; ", 8, 1);
        broken("good 1;land 1 1; x", 17, 1);
        broken("Good 1;", 0, 1);
        broken("goodly 1;", 0, 1);
        broken("goo 1;", 0, 1);
        broken("goodz 1;", 0, 1);
        broken("agood 1;", 0, 1);
        broken("good 1;landa 1 1;", 7, 1);
        broken("good `1;", 5, 1);
        broken("good {1;", 5, 1);
        broken("good /1;", 5, 1);
        broken("good :1;", 5, 1);
        broken("good -1;", 5, 1);
        broken("good\t1;", 4, 1);
        broken("good ;", 5, 1);
        broken("good 1 2;", 7, 1);
        broken("good 1,", 6, 1);
        broken("good 0;", 5, 2);
        broken("good 00;", 5, 2);
        broken("good 21;", 5, 2);
        broken("good 001;", 5, 1);
        broken("good land;", 5, 1);
        broken("good 1;good 2;land 1 1;", 22, 1);
        broken("good 1;land 1 1 1;", 16, 1);
        broken("good 1;land 1 1 99;", 16, 1);
        broken("good 1;land 0 1;", 12, 2);
        broken("good 1;land 100 1;", 12, 1);
        broken("good 1;land 99 21;", 15, 2);
        broken("good 1;land 99 0;", 15, 2);
        broken("good 1;land 1 1;good 1;", 16, 1);
        broken("good 1;land 1 1;land", 20, 1);
        broken("good 1;good 1;good 1;good 1;good 1;good 1;good 99;", 42, 3);
        broken("good 1;land 1 1;land 1 1;land 1 1;land", 34, 3);
        broken("good 1;land 1 1;land 1 1;land 1 1;good", 34, 1);
        broken("good 1;land 1 1;" + (char) 228, 16, 1);
    }

    /** Neither what an earlier text left behind the end may be read, nor a byte behind a full tape. */
    private static void whereTheTapeEnds() {
        LandGoods x = new LandGoods();
        Due.feedText(x, "goodx 1;");
        x.world();
        Due.feedText(x, "good");
        DUE.is("7: a word that ends the tape", x.world(), LandGoods.NOT - 100 - 4);
        Due.feedText(x, "good 123;");
        x.world();
        Due.feedText(x, "good 12");
        DUE.is("7: a number that ends the tape", x.world(), LandGoods.NOT - 100 - 7);
        for (String last : new String[] {"good", "good 1", "good 1;land 1 1;x", "good 1;land 1 1;1"}) {
            Due.feedText(x, " ".repeat(400 - last.length()) + last);
            DUE.is("7: a full tape that ends in '" + last + "': bytes", x.count(5), 400);
            int place = last.length() > 6 ? 399 : 400;
            DUE.is("7: a full tape that ends in '" + last + "'", x.world(), LandGoods.NOT - 100 - place);
        }
        String text = "good 1;land 1 1;";
        Due.feedText(x, text + "\n".repeat(400 - text.length()));
        DUE.is("7: a full tape", x.world(), 1);
    }

    private static void aFaultLeavesTheWorld() {
        LandGoods x = Due.worldOf("good 5;land 7 3;");
        Due.feedText(x, "good 2;land 8 0;");
        DUE.is("7: a fault", x.world(), LandGoods.NOT - 100 - 14);
        DUE.is("7: the world stays: share", x.told(0, 0, 2), 5);
        DUE.is("7: the world stays: hands", x.told(0, 0, 1), 7);
        DUE.is("7: the world stays: hours", x.told(0, 0, 0), 3);
        x.move(1);
        Due.feedText(x, "land");
        x.world();
        DUE.is("7: what was moved stays known", x.on(0), 0);
        DUE.is("8: the latest fault", x.fault(), 1);
        Due.feedText(x, "good 2;land 8 4;");
        DUE.is("7: a world in place", x.world(), 1);
        DUE.is("8: the latest fault is told still", x.fault(), 1);
        DUE.is("7: another world: hands", x.told(0, 0, 1), 8);
        DUE.is("7: of this world nothing was moved", x.on(0), Due.STATE);
    }

    private static void told() {
        LandGoods x = Due.worldOf("good 3;good 4;land 5 6 7;land 8 9 10;");
        DUE.is("9: hours", x.told(1, 0, 0), 9);
        DUE.is("9: hours of the other", x.told(0, 1, 0), 7);
        DUE.is("9: hands", x.told(1, 0, 1), 8);
        DUE.is("9: share", x.told(0, 1, 2), 4);
        DUE.is("9: no such what", x.told(0, 0, 3), Due.BAD);
        DUE.is("9: no such what below", x.told(0, 0, -1), Due.BAD);
        DUE.is("9: no such land", x.told(2, 0, 0), Due.BAD);
        DUE.is("9: no such land below", x.told(-1, 0, 0), Due.BAD);
        DUE.is("9: no such good", x.told(0, 2, 0), Due.BAD);
        DUE.is("9: no such good below", x.told(0, -1, 1), Due.BAD);
    }
}
