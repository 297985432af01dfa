/** Promises 6 to 9: the tape, how it is read, faults, what is told. */
public final class WorldsTest {
    private static final Due DUE = new Due();

    public static void main(String[] args) {
        feed();
        eachNumberOfBytes();
        theTapeHasAtMost400();
        worldsThatAreRead();
        faults();
        whatIsBetween();
        whatIsAName();
        whatIsANumber();
        whatIsASign();
        numbersAsTold();
        howManyGoodsAndLands();
        eachTokenThatIsMissing();
        eachTokenOfAnotherSort();
        nothingIsLeftOfATextBefore();
        theFirstTokenThatHasAFault();
        ofOneTokenTheLeast();
        theLatestFault();
        whereTheTapeEnds();
        aFaultLeavesTheWorld();
        aWorldInPlaceOfAnother();
        told();
        DUE.end("WorldsTest");
    }

    private static void feed() {
        LandGoods x = new LandGoods();
        DUE.is("6: feed 0 bytes", x.feed(1, 0), Due.BAD);
        DUE.is("6: feed 9 bytes", x.feed(1, 9), Due.BAD);
        DUE.is("6: feed fewer than none", x.feed(1, -1), Due.BAD);
        for (int n = 1; n <= 49; n++) {
            DUE.is("6: feed 8 bytes", x.feed(0x2020202020202020L, 8), 8 * n);
        }
        DUE.is("6: feed 5 bytes", x.feed(0x2020202020L, 5), 397);
        DUE.is("6: feed 4 that do not fit", x.feed(0, 4), Due.FULL);
        DUE.is("6: feed BAD ahead of FULL", x.feed(0, 9), Due.BAD);
        DUE.is("6: none came", x.count(5), 397);
        DUE.is("6: feed 3 that fit", x.feed(0x202020L, 3), 400);
        DUE.is("6: feed 1 more", x.feed(0, 1), Due.FULL);
        DUE.is("6: blanks alone: the end has the fault", x.world(), LandGoods.NOT - 100 - 400);
        DUE.is("6: the tape is empty then", x.count(5), 0);
        DUE.is("6: only the lowest bytes come, the highest of them first", x.feed(0x7A7A7A676F6F64L, 4), 4);
        DUE.is("6: ' 5;'", x.feed(0x7A20353BL, 3), 7);
        DUE.is("6: 'land'", x.feed(0x7A6C616E64L, 4), 11);
        DUE.is("6: ' 7 3;'", x.feed(0x7A203720333BL, 5), 16);
        DUE.is("6: all of it is read", x.world(), 1);
        DUE.is("6: its hands", x.told(0, 0, 1), 7);
    }

    /** "The lowest n bytes of w (1 to 8), the highest of them first": each n, with other bytes above them. */
    private static void eachNumberOfBytes() {
        String text = "good 5;land 7 3;";
        for (int n = 1; n <= 8; n++) {
            LandGoods x = new LandGoods();
            for (int from = 0; from < text.length(); from += n) {
                int some = Math.min(n, text.length() - from);
                long above = some == 8 ? 0 : 0x7A7A7A7A7A7A7A7AL << (8 * some);
                DUE.is("6: how many there are, by " + n, x.feed(above | Due.bytesOf(text, from, some), some), from + some);
            }
            DUE.is("6: the text by " + n, x.world(), 1);
            DUE.is("6: its share by " + n, x.told(0, 0, 2), 5);
            DUE.is("6: its hands by " + n, x.told(0, 0, 1), 7);
            DUE.is("6: its hours by " + n, x.told(0, 0, 0), 3);
        }
        LandGoods x = new LandGoods();
        DUE.is("6: eight bytes with the highest bit", x.feed(-1L, 8), 8);
        DUE.is("6: are no token", x.world(), LandGoods.NOT - 100);
        x.feed(0x8000000000000000L, 8);
        DUE.is("6: nor is this", x.world(), LandGoods.NOT - 100);
    }

    /** "THE TAPE has at most 400 bytes", "FULL: none comes": from each number of bytes that is near. */
    private static void theTapeHasAtMost400() {
        for (int there = 391; there <= 400; there++) {
            for (int n = 1; n <= 8; n++) {
                LandGoods x = new LandGoods();
                Due.feedText(x, " ".repeat(there));
                DUE.is("6: bytes", x.count(5), there);
                boolean fits = there + n <= 400;
                DUE.is("6: " + n + " behind " + there, x.feed(0x3B3B3B3B3B3B3B3BL, n), fits ? there + n : Due.FULL);
                DUE.is("6: bytes then", x.count(5), fits ? there + n : there);
                DUE.is("6: what came", x.world(), LandGoods.NOT - 100 - there);
                DUE.is("6: room again", x.feed(0, 8), 8);
            }
        }
    }

    private static void read(String text, int lands) {
        LandGoods x = new LandGoods();
        Due.feedText(x, text);
        DUE.is("7: world() of '" + text + "'", x.world(), lands);
        DUE.is("7: tape behind '" + text + "'", x.count(5), 0);
        DUE.is("8: fault() of '" + text + "'", x.fault(), 0);
        DUE.is("7: lands of '" + text + "'", x.count(1), lands);
    }

    private static void worldsThatAreRead() {
        read("good 1;land 1 1;", 1);
        read("good 20;land 99 20;", 1);
        read(" \n good 5 \n;land\n7 3 ;  ", 1);
        read("good5;land7 3;", 1);
        read("good 05;land 07 03;land 01 01;", 2);
        read("good 1;good 2;good 3;good 4;good 5;good 6;land 1 1 2 3 4 5 6;land 2 1 2 3 4 5 6;land 3 1 2 3 4 5 6;", 3);
    }

    private static void broken(String text, int place, int number) {
        LandGoods x = new LandGoods();
        Due.feedText(x, text);
        DUE.is("7: world() of '" + text + "'", x.world(), LandGoods.NOT - 100 - place);
        DUE.is("8: fault() of '" + text + "'", x.fault(), number);
        DUE.is("7: tape behind '" + text + "'", x.count(5), 0);
        DUE.is("7: lands behind '" + text + "'", x.count(1), 0);
    }

    private static void faults() {
        broken("", 0, 1);
        broken("  ", 2, 1);
        broken("good 1; ", 8, 1);
        broken("good 1;land 1 1; x", 17, 1);
        broken("Good 1;", 0, 1);
        broken("goodly 1;", 0, 1);
        broken("goo 1;", 0, 1);
        broken("goodz 1;", 0, 1);
        broken("agood 1;", 0, 1);
        broken("good 1;landa 1 1;", 7, 1);
        broken("good `1;", 5, 1);
        broken("good {1;", 5, 1);
        broken("good /1;", 5, 1);
        broken("good :1;", 5, 1);
        broken("good -1;", 5, 1);
        broken("good\t1;", 4, 1);
        broken("good ;", 5, 1);
        broken("good 1 2;", 7, 1);
        broken("good 1,", 6, 1);
        broken("good 0;", 5, 2);
        broken("good 00;", 5, 2);
        broken("good 21;", 5, 2);
        broken("good 001;", 5, 1);
        broken("good land;", 5, 1);
        broken("good 1;good 2;land 1 1;", 22, 1);
        broken("good 1;land 1 1 1;", 16, 1);
        broken("good 1;land 1 1 99;", 16, 1);
        broken("good 1;land 0 1;", 12, 2);
        broken("good 1;land 100 1;", 12, 1);
        broken("good 1;land 99 21;", 15, 2);
        broken("good 1;land 99 0;", 15, 2);
        broken("good 1;land 1 1;good 1;", 16, 1);
        broken("good 1;land 1 1;land", 20, 1);
        broken("good 1;good 1;good 1;good 1;good 1;good 1;good 99;", 42, 3);
        broken("good 1;land 1 1;land 1 1;land 1 1;land", 34, 3);
        broken("good 1;land 1 1;land 1 1;land 1 1;good", 34, 1);
        broken("good 1;land 1 1;" + (char) 228, 16, 1);
    }

    /** "bytes 32 and 10 between": each of the 256 bytes between two tokens, at the beginning and at the end. */
    private static void whatIsBetween() {
        for (int b = 0; b < 256; b++) {
            char c = (char) b;
            if (b == 32 || b == 10) {
                read("good 5;" + c + "land 7 3;", 1);
                read(c + "good 5;land 7 3;", 1);
                read("good 5;land 7 3;" + c, 1);
                read("good" + c + "5;land 7 3;", 1);
                read("good 5" + c + ";land 7" + c + "3" + c + ";", 1);
                read(("" + c).repeat(9) + "good 5;land 7 3;", 1);
            } else {
                broken("good 5;" + c + "land 7 3;", 7, 1);
                broken(c + "good 5;land 7 3;", 0, 1);
                broken("good 5;land 7 3;" + c, 16, 1);
            }
        }
        broken("go od 5;", 0, 1);
        broken("good 1 1;", 7, 1);
        broken("good 1;la\nnd 1 1;", 7, 1);
        // One figure and another one are two NUMBERS: hands of 1 and hours of 2, and then hours of 3 too many.
        broken("good 1;land 1 2 3;", 16, 1);
        read("good 1;land 12 3;", 1);
    }

    /** "NAMES (letters a to z)": bytes beside them are none, and a word must be whole. */
    private static void whatIsAName() {
        for (char c : new char[] {'`', '{', 'A', 'Z', '@', '[', (char) ('d' + 128)}) {
            broken("goo" + c + " 1;", 0, 1);
            broken("good" + c + " 1;", 4, 1);
            broken("good 1;land" + c + " 1 1;", 11, 1);
            broken("good 1;" + c + "land 1 1;", 7, 1);
        }
        for (String word : new String[] {"a", "z", "g", "goo", "ood", "gooda", "goodz", "goods", "goodgood", "lan", "l",
            "landa", "landz", "lands", "food", "gold", "goat", "gout", "goof", "wand", "lend", "lard", "lane", "dnal", "doog", "goodland", "GOOD", "Land"}) {
            broken(word + " 1;", 0, 1);
            broken("good 1;" + word + " 1 1;", 7, 1);
            broken("good 1;land 1 1;" + word + " 1 1;", 16, 1);
        }
    }

    /** "NUMBERS (figures, 2 at most)": one, two and three of them, and bytes beside figures. */
    private static void whatIsANumber() {
        read("good 5;land 7 3;", 1);
        read("good 05;land 07 03;", 1);
        broken("good 005;land 7 3;", 5, 1);
        broken("good 5;land 007 3;", 12, 1);
        broken("good 5;land 7 003;", 14, 1);
        broken("good 100;", 5, 1);
        broken("good 0000000000000000000000000000001;", 5, 1);
        broken("good 4294967301;", 5, 1);
        for (char c : new char[] {'/', ':', '-', '+', '.', (char) ('5' + 128)}) {
            broken("good " + c + ";", 5, 1);
            broken("good 1" + c + ";", 6, 1);
            broken("good 1;land 1" + c + "1;", 13, 1);
        }
        LandGoods x = Due.worldOf("good 10;good 09;land 90 19 20;");
        DUE.is("7: a NUMBER of 10", x.told(0, 0, 2), 10);
        DUE.is("7: a NUMBER of 09", x.told(0, 1, 2), 9);
        DUE.is("7: a NUMBER of 90", x.told(0, 0, 1), 90);
        DUE.is("7: a NUMBER of 19", x.told(0, 0, 0), 19);
        DUE.is("7: a NUMBER of 20", x.told(0, 1, 0), 20);
    }

    /** "SIGNS ;": bytes beside it are none. */
    private static void whatIsASign() {
        for (char c : new char[] {':', '<', ',', '.', (char) (';' + 128)}) {
            broken("good 1" + c + "land 1 1;", 6, 1);
            broken("good 1;land 1 1" + c, 15, 1);
        }
        broken("good 1;;land 1 1;", 7, 1);
        broken(";good 1;land 1 1;", 0, 1);
        broken("good ;1;land 1 1;", 5, 1);
        broken("good 1;land; 1 1;", 11, 1);
        broken("good 1;land 1; 1;", 13, 1);
        broken("good 1;land 1 1;;", 16, 1);
    }

    private static void number(String ahead, int value, String behind, int most) {
        String text = ahead + value + behind;
        if (value >= 1 && value <= most) {
            read(text, 1);
        } else {
            broken(text, ahead.length(), 2);
        }
    }

    /** "a share (1 to 20)", "HANDS (1 to 99)", "the HOURS (1 to 20)": all numbers of two figures. */
    private static void numbersAsTold() {
        for (int v = 0; v <= 99; v++) {
            number("good ", v, ";land 1 1;", 20);
            number("good 1;good ", v, ";land 1 1 1;", 20);
            number("good 1;land ", v, " 1;", 99);
            number("good 1;land 1 ", v, ";", 20);
            number("good 1;good 1;land 1 1 ", v, ";", 20);
        }
        broken("good 00;land 1 1;", 5, 2);
        broken("good 1;land 00 1;", 12, 2);
        broken("good 1;land 1 00;", 14, 2);
        broken("good 1;land 1 1;land 0 1;", 21, 2);
        broken("good 1;land 1 1;land 99 21;", 24, 2);
        broken("good 1;land 1 1;land 99 1;land 99 0;", 34, 2);
    }

    /** "GOODS 0 .. 5 (6 at most)", "LANDS 0 .. 2 (3 at most)", and one of each at least. */
    private static void howManyGoodsAndLands() {
        for (int goods = 1; goods <= 8; goods++) {
            for (int lands = 1; lands <= 5; lands++) {
                String ahead = "good 2;".repeat(goods);
                String land = "land 3" + " 4".repeat(goods) + ";";
                String text = ahead + land.repeat(lands);
                if (goods > 6) {
                    broken(text, 6 * 7, 3);
                } else if (lands > 3) {
                    broken(text, ahead.length() + 3 * land.length(), 3);
                } else {
                    read(text, lands);
                }
            }
        }
        // The word itself has the fault, whatever comes behind it.
        broken("good 2;".repeat(6) + "good", 42, 3);
        broken("good 2;".repeat(6) + "\n good 0", 44, 3);
        broken("good 2;" + "land 3 4;".repeat(3) + "  land 0", 36, 3);
        broken("land 1 1;", 0, 1);
        broken("good 1;", 7, 1);
        broken("good 1;good 1;", 14, 1);
    }

    /** Of a text each token in turn is left out: the next one, or the end, cannot stand there. */
    private static void eachTokenThatIsMissing() {
        String[] tokens = {"good", "1", ";", "good", "2", ";", "land", "3", "4", "5", ";", "land", "6", "7", "8", ";"};
        int[] place = new int[tokens.length + 1];
        for (int i = 0; i < tokens.length; i++) {
            place[i + 1] = place[i] + tokens[i].length() + 1;
        }
        read(String.join(" ", tokens), 2);
        for (int out = 0; out < tokens.length; out++) {
            StringBuilder text = new StringBuilder();
            for (int i = 0; i < tokens.length; i++) {
                text.append(i == out ? "" : tokens[i] + " ");
            }
            // Without 'good' the number behind it stands where it cannot; so it goes for all but a NUMBER of a LAND,
            // where the next NUMBER takes its place, and it is the ';' that comes too early.
            int at = out >= 7 && out <= 9 ? place[9] : out >= 12 && out <= 14 ? place[14] : place[out];
            broken(text.toString(), out == tokens.length - 1 ? text.length() : at, 1);
        }
        for (int end = 0; end < tokens.length; end++) {
            String text = String.join(" ", java.util.Arrays.copyOf(tokens, end));
            if (end == 11) {
                read(text, 1);
            } else {
                broken(text, text.length(), 1);
                broken(text + " \n", text.length() + 2, 1);
            }
        }
    }

    /** Of a text each token in turn is another one: it cannot stand there, but for a second good, and a land early. */
    private static void eachTokenOfAnotherSort() {
        String[] tokens = {"good", "1", ";", "good", "2", ";", "land", "3", "4", "5", ";", "land", "6", "7", "8", ";"};
        String[] others = {"good", "land", "x", "7", "777", ";", "?", "Good"};
        for (int at = 0; at < tokens.length; at++) {
            boolean number = Character.isDigit(tokens[at].charAt(0));
            StringBuilder ahead = new StringBuilder();
            for (int i = 0; i < at; i++) {
                ahead.append(tokens[i]).append(' ');
            }
            for (String other : others) {
                boolean word = (at == 3 || at == 6) && (other.equals("good") || other.equals("land"));
                if (other.equals(tokens[at]) || number && other.equals("7") || word) {
                    continue;
                }
                String behind = String.join(" ", java.util.Arrays.copyOfRange(tokens, at + 1, tokens.length));
                broken(ahead + other + " " + behind, ahead.length(), 1);
            }
        }
        // A land after one good has one number for it; a third good has but one number.
        broken("good 1 ; land 2 ; land 3 4 5 ;", 16, 1);
        broken("good 1 ; good 2 ; good 3 4 5 ;", 25, 1);
    }

    /** A text that had a fault at some token leaves nothing by which the next one could be read another way. */
    private static void nothingIsLeftOfATextBefore() {
        String[] before = {"good 2;".repeat(7), "good 2;" + "land 3 4;".repeat(4), "good 0;", "good 1;land 9 21;", "good 1",
            ";", "good 1;land 1 1;"};
        String[] texts = {"x 1;land 1 1;", "goods 1;land 1 1;", "1;land 1 1;", "good x;land 1 1;", "good 1;lands 1 1;",
            "good 1;land x 1;", "good 1;land 1 x;", "good 777;land 1 1;", ""};
        int[] places = {0, 0, 0, 5, 7, 12, 14, 5, 0};
        for (String first : before) {
            for (int n = 0; n < texts.length; n++) {
                LandGoods x = new LandGoods();
                Due.feedText(x, first);
                x.world();
                Due.feedText(x, texts[n]);
                DUE.is("7: '" + texts[n] + "' behind '" + first + "'", x.world(), LandGoods.NOT - 100 - places[n]);
                DUE.is("8: fault() of it", x.fault(), 1);
                Due.feedText(x, "good 1;land 1 1;");
                DUE.is("7: a world behind it", x.world(), 1);
            }
        }
    }

    /** "FAULTS, the first TOKEN that has one (its first byte)": of two the one ahead, and blanks are no part of it. */
    private static void theFirstTokenThatHasAFault() {
        broken("good 0;land 0 0;", 5, 2);
        broken("good   21 ; x", 7, 2);
        broken("good 21 x", 5, 2);
        broken("good x 21", 5, 1);
        broken("good 1; \n\n  lend 1 1;", 12, 1);
        broken("good 1;land 1 21;land", 14, 2);
        broken("good 1;land 0 21;", 12, 2);
        broken("good 1;land 1 1; ?land", 17, 1);
        broken("good 99 99;", 5, 2);
    }

    /** "of one TOKEN the least": a NUMBER out of bounds, or a word too many, where neither can stand, has a 1. */
    private static void ofOneTokenTheLeast() {
        broken("99", 0, 1);
        broken("good 1 99;", 7, 1);
        broken("good 1;99", 7, 1);
        broken("good 1;land 1 1 0;", 16, 1);
        broken("good 1;land 1 1 21;", 16, 1);
        broken("good 1;land 1 1;99", 16, 1);
        broken("good 100;", 5, 1);
        broken("good 000;", 5, 1);
        broken("good 2;".repeat(6) + "land 3 4 4 4 4 4 4;good 1;", 61, 1);
        broken("good 2;" + "land 3 4;".repeat(3) + "good 1;", 34, 1);
        broken("good 2;".repeat(6) + "goods 1;", 42, 1);
        broken("good 2;" + "land 3 4;".repeat(3) + "lands 3 4;", 34, 1);
        broken("good 2;" + "land 3 4;".repeat(2) + "land 3 land", 32, 1);
        broken("good 2;".repeat(5) + "good good", 40, 1);
    }

    /** "The number of the latest FAULT; 0 before one". */
    private static void theLatestFault() {
        LandGoods x = new LandGoods();
        DUE.is("8: before one", x.fault(), 0);
        Due.feedText(x, "good 1;land 1 1;");
        x.world();
        DUE.is("8: before one, behind a world", x.fault(), 0);
        Due.feedText(x, "good 2;".repeat(7));
        DUE.is("8: fed, but not read", x.fault(), 0);
        x.world();
        DUE.is("8: a 3", x.fault(), 3);
        Due.feedText(x, "good 0;");
        x.world();
        DUE.is("8: a 2", x.fault(), 2);
        x.world();
        DUE.is("8: a 1", x.fault(), 1);
        Due.feedText(x, "good 0;");
        x.world();
        Due.feedText(x, "good 1;land 1 1;");
        x.world();
        DUE.is("8: a 2 again, behind a world, too", x.fault(), 2);
        x.row(9, 9, 9);
        x.feed(0, 9);
        x.drop(0);
        DUE.is("8: what is refused or found is no FAULT", x.fault(), 2);
    }

    /** Neither what an earlier text left behind the end may be read, nor a byte behind a full tape. */
    private static void whereTheTapeEnds() {
        LandGoods x = new LandGoods();
        Due.feedText(x, "goodx 1;");
        x.world();
        Due.feedText(x, "good");
        DUE.is("7: a word that ends the tape", x.world(), LandGoods.NOT - 100 - 4);
        Due.feedText(x, "good 123;");
        x.world();
        Due.feedText(x, "good 12");
        DUE.is("7: a number that ends the tape", x.world(), LandGoods.NOT - 100 - 7);
        for (String last : new String[] {"good", "good 1", "good 1;land 1 1;x", "good 1;land 1 1;1"}) {
            Due.feedText(x, " ".repeat(400 - last.length()) + last);
            DUE.is("7: a full tape that ends in '" + last + "': bytes", x.count(5), 400);
            int place = last.length() > 6 ? 399 : 400;
            DUE.is("7: a full tape that ends in '" + last + "'", x.world(), LandGoods.NOT - 100 - place);
        }
        String text = "good 1;land 1 1;";
        Due.feedText(x, text + "\n".repeat(400 - text.length()));
        DUE.is("7: a full tape", x.world(), 1);
    }

    private static void aFaultLeavesTheWorld() {
        LandGoods x = Due.worldOf("good 5;land 7 3;");
        Due.feedText(x, "good 2;land 8 0;");
        DUE.is("7: a fault", x.world(), LandGoods.NOT - 100 - 14);
        DUE.is("7: the world stays: share", x.told(0, 0, 2), 5);
        DUE.is("7: the world stays: hands", x.told(0, 0, 1), 7);
        DUE.is("7: the world stays: hours", x.told(0, 0, 0), 3);
        x.move(1);
        Due.feedText(x, "land");
        x.world();
        DUE.is("7: what was moved stays known", x.on(0), 0);
        DUE.is("8: the latest fault", x.fault(), 1);
        Due.feedText(x, "good 2;land 8 4;");
        DUE.is("7: a world in place", x.world(), 1);
        DUE.is("8: the latest fault is told still", x.fault(), 1);
        DUE.is("7: another world: hands", x.told(0, 0, 1), 8);
        DUE.is("7: of this world nothing was moved", x.on(0), Due.STATE);
    }

    /** "A WORLD that is read stands in place of the one before": with fewer LANDS and GOODS, and with more. */
    private static void aWorldInPlaceOfAnother() {
        String[] texts = {"good 5;land 7 3;", "good 3;good 4;land 5 6 7;land 8 9 10;",
            "good 1;good 2;good 3;good 4;good 5;good 6;land 1 1 2 3 4 5 6;land 2 1 2 3 4 5 6;land 3 1 2 3 4 5 6;"};
        LandGoods x = new LandGoods();
        for (int way : new int[] {0, 1, 2, 1, 0, 2, 0}) {
            Due.feedText(x, texts[way]);
            int lands = way + 1;
            int goods = way == 2 ? 6 : way + 1;
            DUE.is("7: how many LANDS, way " + way, x.world(), lands);
            DUE.is("25: LANDS, way " + way, x.count(1), lands);
            DUE.is("25: GOODS, way " + way, x.count(2), goods);
            DUE.is("9: the last LAND and GOOD, way " + way, x.told(lands - 1, goods - 1, 0), new int[] {3, 10, 6}[way]);
            DUE.is("9: the next LAND, way " + way, x.told(lands, 0, 0), Due.BAD);
            DUE.is("9: the next GOOD, way " + way, x.told(0, goods, 0), Due.BAD);
            DUE.is("25: HANDS, way " + way, x.count(3), new int[] {7, 13, 6}[way]);
            DUE.is("7: the tape, way " + way, x.count(5), 0);
        }
        DUE.is("7: an empty tape is read, too", x.world(), LandGoods.NOT - 100);
        DUE.is("7: and the world stays", x.count(1), 1);
    }

    private static void told() {
        LandGoods x = Due.worldOf("good 3;good 4;land 5 6 7;land 8 9 10;");
        DUE.is("9: hours", x.told(1, 0, 0), 9);
        DUE.is("9: hours of the other", x.told(0, 1, 0), 7);
        DUE.is("9: hands", x.told(1, 0, 1), 8);
        DUE.is("9: share", x.told(0, 1, 2), 4);
        DUE.is("9: no such what", x.told(0, 0, 3), Due.BAD);
        DUE.is("9: no such what below", x.told(0, 0, -1), Due.BAD);
        DUE.is("9: no such land", x.told(2, 0, 0), Due.BAD);
        DUE.is("9: no such land below", x.told(-1, 0, 0), Due.BAD);
        DUE.is("9: no such good", x.told(0, 2, 0), Due.BAD);
        DUE.is("9: no such good below", x.told(0, -1, 1), Due.BAD);
    }
}
