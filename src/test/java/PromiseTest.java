/** Each promise of the document with answers worked out by hand: ordinary ones, edges, wrong inputs. */
public final class PromiseTest {
    private static final Check check = new Check();
    private static final int NONE = HollowPunches.NONE;

    /** An o of four by four, one hollow of four squares. */
    private static final String O = "letter;ring 0 0 4 4;";
    /** Two hollows, of one square and of two, above each other, and one of two squares upright. */
    private static final String THREE = "letter;ring 0 0 3 3;ring 0 4 4 3;ring 5 0 3 4;";

    public static void main(String[] args) {
        newObject();
        tape();
        sheets();
        faults();
        blanksAndNumbers();
        limits();
        drawings();
        copies();
        reachedAndHidden();
        hollows();
        sixteenHollows();
        shapes();
        apart();
        counterpunches();
        bites();
        punch();
        bursts();
        plan();
        hours();
        orders();
        manyActs();
        black();
        colour();
        even();
        press();
        prints();
        partings();
        canAndLeft();
        nearest();
        originals();
        fount();
        images();
        counts();
        check.end("PromiseTest");
    }

    private static void newObject() {
        check.promise(1);
        HollowPunches x = new HollowPunches();
        check.same("NONE", NONE, -1);
        check.same("told(0)", x.told(0), 0);
        check.same("told(1)", x.told(1), 0);
        check.same("told(2)", x.told(2), 0);
        check.same("fault()", x.fault(), NONE);
        check.same("steel()", x.steel(), 0);
        check.same("clear()", x.clear(), 0);
        check.same("restore()", x.restore(), -1);
        check.same("even(9)", x.even(9), 0);
        check.same("fount", x.fount(511, 99, true), 0);
        for (int what = 0; what < 4; what++) {
            check.same("count", x.count(what), 0);
        }
        check.noElement("begin(0)", () -> x.begin(0));
        check.noIndex("colour(0, 1, 0)", () -> x.colour(0, 1, 0));
    }

    private static void tape() {
        check.promise(2);
        HollowPunches x = new HollowPunches();
        for (int i = 1; i <= 25; i++) {
            check.same("feed", x.feed(i, -1, 0, Integer.MIN_VALUE, 7), 20 * i);
        }
        check.same("feed on a full tape", x.feed(0, 0, 0, 0, 0), NONE);
        check.same("count(3)", x.count(3), 500);
        check.same("sheet(0)", x.sheet(0), 0);
        check.same("count(3)", x.count(3), 0);
        check.same("feed", x.feed(0x6c657474, 0x65723b00, 0, 0, 0), 20);
        check.same("the highest byte first", x.sheet(7), 1);
        check.same("a byte of 255", sheetOf("letter;" + (char) 255), -9);
        check.same("a byte of 128", sheetOf("letter;" + (char) 128), -9);
    }

    private static int sheetOf(String text) {
        return Texts.tell(new HollowPunches(), text);
    }

    private static void sheets() {
        check.promise(3);
        HollowPunches x = Texts.of(O + "word 00;spread 3 9;");
        x.begin(0);
        x.addBlow(0);
        x.print(1);
        x.image();
        Texts.put(x, "letter;letter;");
        check.illegal("sheet(-1)", () -> x.sheet(-1));
        check.illegal("sheet(21)", () -> x.sheet(21));
        check.same("the tape stays", x.count(3), 20);
        check.same("a fault", x.sheet(15), -9);
        check.same("the tape is empty", x.count(3), 0);
        check.same("all stays", x.told(0), 1);
        check.same("all stays", x.black(0, 3), 16 * 12 + 9 * 12);
        check.same("all stays", x.steel(), -1L);
        check.same("all stays", x.count(0) + x.count(1) + x.count(2), 3);
        check.same("sheet", Texts.tell(x, "letter;letter;"), 2);
        check.same("the punch is gone", x.punch(0), NONE);
        check.same("the rest is gone", x.count(0) + x.count(1) + x.count(2), 0);
        check.same("no image", x.restore(), -1);
        check.same("words are gone", x.told(1), 0);
        check.same("hollows are gone", x.told(2), 0);
        check.same("ink is gone", x.squares(0, 0), 0);
        Texts.tell(x, O);
        check.same("spread is 4 again", x.black(0, 3), 16 * 12 + 4 * 12);
        check.promise(5);
        check.illegal("told(-1)", () -> x.told(-1));
        check.illegal("told(3)", () -> x.told(3));
    }

    private static void fault(String text, int kind, int place) {
        check.promise(4);
        HollowPunches x = new HollowPunches();
        check.same("sheet of " + text, Texts.tell(x, text), kind == 0 ? place : kind - 10);
        check.same("fault of " + text, x.fault(), kind == 0 ? NONE : place);
    }

    private static void faults() {
        fault("Letter;", 1, 0);
        fault("letter;;", 1, 7);
        fault("letter;lette;", 1, 7);
        fault("letter;letterr;", 1, 7);
        fault("letterz;", 1, 0);
        fault("aletter;", 1, 0);
        fault("letter,", 1, 6);
        fault("letter  ", 1, 8);
        fault("letter 0;", 1, 7);
        fault("5;", 1, 0);
        fault("bar 9 9 9 9;", 1, 0);
        fault("ring 0 0 1 1;", 1, 0);
        fault("cut 0 0 1 1;", 1, 0);
        fault("letter;bar;", 1, 10);
        fault("letter;bar 0 0 1;", 1, 16);
        fault("letter;bar 0 0 1 1 1;", 1, 19);
        fault("letter;bar 0 -1 1 1;", 1, 13);
        fault("letter;bar 0 0", 1, 14);
        fault("letter;bar 0 0 1 1", 1, 18);
        fault("letter;word", 1, 11);
        fault("letter;word a;", 1, 12);
        fault("letter;turned;", 1, 13);
        fault("letter;bar 8 x", 2, 11);
        fault("letter;bar 0 8 1 1;", 2, 13);
        fault("letter;bar 0 0 0 1;", 2, 15);
        fault("letter;bar 0 0 9 1;", 2, 15);
        fault("letter;bar 3 0 6 1;", 2, 15);
        fault("letter;bar 3 4 5 5;", 2, 17);
        fault("letter;bar 3 4 5 0;", 2, 17);
        fault("letter;bar 99999999999999999999 0 1 1;", 2, 11);
        fault("letter;bar 4294967296 0 1 1;", 2, 11);
        fault("letter;turned 1;", 2, 14);
        fault("mirror 0;", 2, 7);
        fault("letter;word 01;", 2, 12);
        fault("letter;word  000000000;", 2, 13);
        fault("word 0;letter;", 2, 5);
        fault("spread 0 1;", 2, 7);
        fault("spread 10 1;", 2, 7);
        fault("spread 1 17;", 2, 9);
        fault("spread 1;", 1, 8);
        fault("letter;bar 0 0 1 1;x", 1, 19);
    }

    private static void blanksAndNumbers() {
        fault("", 0, 0);
        fault("   ", 0, 0);
        fault("  letter  ;  turned  0  ;  ", 0, 2);
        fault("letter;turned0;mirror1;word012;spread1 1;bar0 0 1 1;", 0, 3);
        fault("letter;bar 007 00 0000001 08;", 0, 1);
        fault("letter;word 00000000;", 0, 1);
        fault("spread 9 16;spread 9 0;", 0, 0);
        fault("letter;\n", 1, 7);
        fault("letter;turned 0mirror 0;", 1, 15);
        check.promise(3);
        HollowPunches x = Texts.of(O + "spread 2 16;spread 2 1;spread 9 0;spread 1 16;");
        check.same("of one size the last counts", x.black(0, 2), 192 + 12);
        check.same("another size", x.black(0, 9), 192);
        check.same("another size", x.black(0, 1), 192 + 16 * 12);
        check.same("without", x.black(0, 8), 192 + 48);
    }

    private static String times(int n, String text) {
        return Texts.times(n, text);
    }

    private static void limits() {
        fault(times(10, "letter;"), 0, 10);
        fault(times(11, "letter;"), 3, 70);
        fault(times(10, "letter;") + "  turned 99;", 3, 72);
        fault(times(10, "letter;") + "mirror;", 3, 70);
        fault(times(10, "letter;") + "letters;", 1, 70);
        fault("letter;" + times(6, "word 0;"), 0, 1);
        fault("letter;" + times(7, "word 0;"), 3, 49);
        fault("letter;" + times(6, "word 0;") + "word;", 3, 49);
        fault(times(10, "letter;") + "word 9876543;", 0, 10);
        fault(times(500, " "), 0, 0);
        fault(times(500, "z"), 1, 0);
        fault("letter;bar " + times(489, "0"), 1, 500);
        fault("letter;bar " + times(489, "1"), 2, 11);
        fault("letter;word " + times(488, "0"), 2, 12);
        fault(times(493, " ") + "letter;", 0, 1);
        fault(times(494, " ") + "letter", 1, 500);
        check.promise(3);
        String most = times(10, "letter;") + times(6, "word0;") + times(39, "spread1 1;");
        check.same("the most clauses that 500 bytes hold", sheetOf(most), 10);
    }

    private static void drawings() {
        check.promise(6);
        HollowPunches x = Texts.of("letter;bar 1 2 3 2;letter;ring 1 1 4 3;letter;ring 0 0 2 5;ring 7 7 1 1;"
                + "letter;bar 0 0 8 8;cut 1 1 2 1;cut 7 7 1 1;letter;ring 0 0 5 5;ring 1 1 3 3;");
        check.same("bar", x.squares(0, 0), Texts.squares("", "", ".###", ".###"));
        check.same("ring", x.squares(1, 0), Texts.squares("", ".####", ".#..#", ".####"));
        check.same("rings without an inside", x.squares(2, 0), 0x0303030303L | 1L << 63);
        check.same("cut", x.squares(3, 0), ~(0x600L | 1L << 63));
        check.same("a ring keeps what is inside", x.squares(4, 0),
                Texts.squares("#####", "#####", "##.##", "#####", "#####"));
        check.noElement("squares(5, 0)", () -> x.squares(5, 0));
        check.noElement("squares(-1, 9)", () -> x.squares(-1, 9));
        check.illegal("squares(0, 3)", () -> x.squares(0, 3));
        check.illegal("squares(0, -1)", () -> x.squares(0, -1));
    }

    private static void copies() {
        check.promise(6);
        HollowPunches x = Texts.of("letter;bar 0 0 3 1;bar 0 1 1 1;turned 0;mirror 0;mirror 1;bar 0 0 1 1;");
        check.same("turned", x.squares(1, 0), Texts.squares("", "", "", "", "", "", ".......#", ".....###"));
        check.same("mirror", x.squares(2, 0), Texts.squares(".....###", ".......#"));
        check.same("a mirror of a turned one, and a bar", x.squares(3, 0),
                Texts.squares("#", "", "", "", "", "", "#", "###"));
        check.same("the first stays", x.squares(0, 0), Texts.squares("###", "#"));
    }

    private static void reachedAndHidden() {
        check.promise(6);
        HollowPunches x = Texts.of(O + "letter;letter;bar 0 0 8 8;letter;ring 0 0 8 8;cut 7 3 1 1;"
                + "letter;ring 0 0 6 6;cut 2 5 1 1;");
        check.same("reached", x.squares(0, 1), ~0x0F0F0F0FL);
        check.same("hidden", x.squares(0, 2), 0x060600L);
        check.same("no ink: all reached", x.squares(1, 1), -1L);
        check.same("no ink: none hidden", x.squares(1, 2), 0);
        check.same("all ink: none reached", x.squares(2, 1), 0);
        check.same("all ink: none hidden", x.squares(2, 2), 0);
        check.same("a row opens to the right", x.squares(3, 1), 0xFE000000L);
        check.same("all others are hidden", x.squares(3, 2), 0x007E7E7E007E7E00L);
        check.same("a column opens below", x.squares(4, 2), Texts.squares("", ".#.##", ".#.##", ".#.##", ".#.##"));
        check.promise(7);
        check.same("ink", x.letter(0, 0), 12);
        check.same("edge inside and outside", x.letter(0, 1), 12);
        check.same("broad", x.letter(4, 2), 6);
        check.same("first hollow", x.letter(0, 3), 0);
        check.same("hollows", x.letter(4, 4), 2);
        check.same("first hollow of 4", x.letter(4, 3), 3);
        check.same("no ink: no edge", x.letter(1, 1), 0);
        check.same("no ink: not broad", x.letter(1, 2), 0);
        check.same("no hollow", x.letter(1, 3), NONE);
        check.same("no hollow", x.letter(1, 4), 0);
        check.same("all ink", x.letter(2, 0), 64);
        check.same("all ink: no edge", x.letter(2, 1), 0);
        check.same("broad", x.letter(2, 2), 8);
        check.noElement("letter(5, 0)", () -> x.letter(5, 0));
        check.illegal("letter(0, 5)", () -> x.letter(0, 5));
        check.illegal("letter(0, -1)", () -> x.letter(0, -1));
        HollowPunches y = Texts.of("letter;bar 2 0 1 1;bar 6 5 1 1;");
        check.same("broad counts what is between", y.letter(0, 2), 5);
        check.same("edge at the rim", y.letter(0, 1), 7);
    }

    private static void hollows() {
        check.promise(8);
        HollowPunches x = Texts.of("letter;" + THREE + O);
        check.same("told(2)", x.told(2), 4);
        check.same("the first by its first square", x.hollow(0), 1L << 9);
        check.same("the upright one has the next", x.hollow(1), 1L << 14 | 1L << 22);
        check.same("the lower one", x.hollow(2), 3L << 41);
        check.same("of the next letter", x.hollow(3), 0x060600L);
        check.noIndex("hollow(4)", () -> x.hollow(4));
        check.noIndex("hollow(-1)", () -> x.hollow(-1));
        HollowPunches y = Texts.of("letter;ring 0 0 4 4;bar 1 2 1 1;bar 2 1 1 1;");
        check.same("corners do not hang together", y.told(2), 2);
        check.same("one square", y.hollow(0), 1L << 9);
        check.same("the other square", y.hollow(1), 1L << 18);
    }

    private static void sixteenHollows() {
        check.promise(8);
        String nine = "letter;bar 0 0 8 8;cut 1 1 1 1;cut 3 1 1 1;cut 5 1 1 1;cut 1 3 1 1;cut 3 3 1 1;cut 5 3 1 1;"
                + "cut 1 5 1 1;cut 3 5 1 1;cut 5 5 1 1;";
        HollowPunches x = Texts.of(nine + "turned 0;mirror 1;");
        check.same("16 of all", x.told(2), 16);
        check.same("the second has seven", x.letter(1, 4), 7);
        check.same("the third has none", x.letter(2, 4), 0);
        check.same("the third has none", x.letter(2, 3), NONE);
        check.same("its squares are hidden", Long.bitCount(x.squares(2, 2)), 9);
        check.same("the last one", x.hollow(15), 1L << 50);
        check.noIndex("hollow(16)", () -> x.hollow(16));
        check.promise(24);
        check.same("no acts at all", x.hours(2, 5, 5), 0);
        check.promise(36);
        check.same("no acts: one punch", x.bars(2, 5, 5), 1000);
        check.promise(11);
        check.same("one serves all", x.punches(0, false, 1), 1);
        check.promise(34);
        x.begin(2);
        check.same("can", x.can(), true);
        check.same("left", x.left(), 0);
        check.same("not done", x.punch(1), 0);
    }

    private static void shapes() {
        check.promise(9);
        HollowPunches x = new HollowPunches();
        check.same("0", x.shape(0), 0);
        check.same("one", x.shape(1L << 63), 1);
        check.same("all", x.shape(-1L), -1L);
        check.same("a last column", x.shape(0x8080808080808080L), 0x0101010101010101L);
        check.same("a last row", x.shape(0xFFL << 56), 0xFF);
        check.same("from two corners", x.shape(1L << 7 | 1L << 8), 1L << 7 | 1L << 8);
        check.same("by two and three", x.shape(Texts.squares("", "", "....#", "...#.")), Texts.squares(".#", "#"));
    }

    private static void apart() {
        check.promise(10);
        // Hollows: an L of 3, an L of 4, its mirror, a bar of 3, a bar of 2 upright
        HollowPunches x = Texts.of("letter;bar 0 0 8 8;cut 1 1 1 2;cut 2 2 1 1;"
                + "letter;bar 0 0 8 8;cut 1 1 1 3;cut 2 3 1 1;mirror 1;"
                + "letter;bar 0 0 8 8;cut 2 2 3 1;letter;bar 0 0 8 8;cut 6 1 1 2;");
        check.same("to itself", x.apart(0, 0, false), 0);
        check.same("L and its mirror", x.apart(1, 2, false), 2);
        check.same("with mirrors", x.apart(1, 2, true), 0);
        check.same("a bar turned", x.apart(3, 4, false), 1);
        check.same("L of 3, L of 4", x.apart(0, 1, false), 3);
        HollowPunches y = Texts.of("letter;bar 0 0 8 8;cut 2 1 1 2;cut 1 2 1 1;cut 5 5 1 1;");
        check.same("the L is turned", y.apart(0, 1, false), 2);
        check.same("the single square is turned", y.apart(1, 0, false), 4);
        check.noIndex("apart(5, 0)", () -> x.apart(5, 0, true));
        check.noIndex("apart(0, 5)", () -> x.apart(0, 5, true));
        check.noIndex("apart(-1, 0)", () -> x.apart(-1, 0, false));
        check.promise(11);
        check.same("only the L serves both", y.punches(2, false, 1), 1);
        check.same("either serves both", y.punches(4, false, 1), 1);
        check.same("both are needed", y.punches(1, false, 1), 3);
        check.same("within 0", x.punches(0, false, 1), 31);
        check.same("within 0, mirrors", x.punches(0, true, 1), 1 + 2 + 8 + 16);
    }

    private static void counterpunches() {
        check.promise(11);
        HollowPunches x = Texts.of("letter;" + THREE);
        check.same("the two long ones serve each other", x.punches(0, false, 0), 2);
        check.same("the least set", x.punches(0, false, 1), 3);
        check.same("within 1", x.punches(1, false, 1), 1);
        check.same("within 64", x.punches(64, true, 1), 1);
        check.illegal("t -1", () -> x.punches(-1, false, 0));
        check.illegal("t 65", () -> x.punches(65, false, 0));
        check.illegal("what 2", () -> x.punches(0, false, 2));
        check.promise(12);
        check.same("by itself", x.served(0, 0, false), 0);
        check.same("by another", x.served(2, 0, false), 1);
        check.same("by the first", x.served(2, 1, false), 0);
        check.noIndex("served(3, 0)", () -> x.served(3, 0, false));
        check.noIndex("both wrong", () -> x.served(-1, 99, false));
        check.illegal("t", () -> x.served(0, 65, false));
        check.illegal("t", () -> x.served(0, -1, true));
        // Bars of 1, 2 and 3: the one in the middle alone serves all within 1
        HollowPunches y = Texts.of("letter;bar 0 0 8 8;cut 1 1 1 1;cut 1 3 2 1;cut 1 5 3 1;");
        check.same("the middle one", y.punches(1, false, 1), 2);
        check.same("served by the middle one", y.served(0, 1, false), 1);
        check.same("within 2", y.punches(2, false, 1), 1);
    }

    private static void bites() {
        check.promise(13);
        HollowPunches x = Texts.of(O + "letter;letter;bar 0 0 8 8;"
                + "letter;bar 0 0 8 8;cut 2 0 1 3;cut 0 5 2 1;cut 7 5 1 1;letter;bar 0 0 7 7;letter;bar 1 0 7 8;");
        check.same("o", x.bites(0, 0), 8);
        check.same("o", x.bites(0, 1), 8);
        check.same("no ink", x.bites(1, 0), 8);
        check.same("no ink", x.bites(1, 1), 8);
        check.same("all ink", x.bites(2, 0), 0);
        check.same("all ink", x.bites(2, 1), 0);
        check.same("three slots", x.bites(3, 0), 3);
        check.same("a rim of two lines", x.bites(4, 0), 2);
        check.same("a rim of two lines", x.bites(4, 1), 2);
        check.same("one column", x.bites(5, 0), 1);
        check.noElement("bites(6, 0)", () -> x.bites(6, 0));
        check.noElement("both wrong", () -> x.bites(6, 7));
        check.illegal("bites(0, 2)", () -> x.bites(0, 2));
        check.promise(14);
        check.same("o", x.lines(0), 0xFF0);
        check.same("no ink: rows from the left", x.lines(1), 0xFF);
        check.same("all ink", x.lines(2), 0);
        check.same("slots", x.lines(3), 1L << 5 | 1L << 13 | 1L << 18);
        check.same("the last row and the last column", x.lines(4), 1L << 7 | 1L << 23);
        check.same("a column from above, as one", x.lines(5), 1L << 16);
        check.noElement("lines(-1)", () -> x.lines(-1));
        HollowPunches y = Texts.of("letter;bar 0 0 8 8;cut 3 6 2 2;");
        check.same("columns from below", y.lines(0), 3L << 27);
    }

    private static void punch() {
        check.promise(15);
        HollowPunches x = Texts.of(O + THREE);
        check.promise(16);
        check.same("no punch", x.blow(0), -1);
        check.promise(17);
        check.same("no punch", x.file(0, 0, 1), -1);
        check.promise(19);
        for (int what = 0; what < 3; what++) {
            check.same("no punch", x.punch(what), NONE);
        }
        check.illegal("punch(3)", () -> x.punch(3));
        check.promise(15);
        x.begin(0);
        check.same("all steel", x.steel(), -1L);
        check.noElement("begin(2)", () -> x.begin(2));
        check.noElement("begin(-1)", () -> x.begin(-1));
        check.promise(16);
        check.same("a blow", x.blow(0), 4);
        check.same("again", x.blow(0), 0);
        check.same("of another letter", x.blow(1), -2);
        check.noIndex("blow(4)", () -> x.blow(4));
        check.promise(17);
        check.same("from the right", x.file(1, 0, 3), 3);
        check.same("some are gone", x.file(1, 0, 4), 1);
        check.same("from below", x.file(3, 7, 2), 2);
        check.same("from above, one is gone", x.file(2, 7, 8), 5);
        check.same("from the left", x.file(0, 6, 1), 1);
        check.illegal("side 4", () -> x.file(4, 0, 1));
        check.illegal("side -1", () -> x.file(-1, 0, 1));
        check.illegal("line 8", () -> x.file(0, 8, 1));
        check.illegal("line -1", () -> x.file(0, -1, 1));
        check.illegal("n 0", () -> x.file(0, 0, 0));
        check.illegal("n 9", () -> x.file(0, 0, 9));
        check.promise(18);
        check.same("steel", x.steel(), ~(0x060600L | 0xF0L | 0x8080808080808080L | 1L << 48));
        check.promise(19);
        check.same("good", x.punch(0), 1);
        check.same("not done", x.punch(1), 0);
        for (int row = 0; row < 8; row++) {
            x.file(1, row, row < 4 ? 4 : 8);
        }
        check.same("done", x.punch(1), 1);
        check.same("no burst", x.punch(2), 0);
        x.file(0, 0, 1);
        check.same("not good", x.punch(0), 0);
        check.same("not done any more", x.punch(1), 0);
        check.illegal("punch(-1)", () -> x.punch(-1));
        check.promise(15);
        x.begin(0);
        check.same("a new one", x.steel(), -1L);
        check.same("a new one is good", x.punch(0), 1);
        HollowPunches full = Texts.of("letter;bar 0 0 8 8;");
        full.begin(0);
        check.same("all ink is done at once", full.punch(1), 1);
    }

    private static void bursts() {
        check.promise(16);
        // The hollow x 1, y 1 to 4 lies beside the slot x 2, y 1 to 4, which a file reaches from below
        HollowPunches x = Texts.of("letter;ring 0 0 6 6;cut 2 5 1 1;");
        x.begin(0);
        x.file(3, 2, 5);
        check.same("not beside yet", x.punch(2), 0);
        check.same("itself and ten beside, less two gone", x.blow(0), 4 + 10 - 2);
        check.promise(19);
        check.same("it has burst", x.punch(2), 1);
        check.same("not good", x.punch(0), 0);
        x.begin(0);
        check.same("a new one has not", x.punch(2), 0);
        check.same("a blow ahead of the file", x.blow(0), 4);
        check.same("then the other", x.blow(1), 8);
        check.same("no burst", x.punch(2), 0);
        check.promise(16);
        HollowPunches y = Texts.of("letter;bar 0 0 8 8;cut 0 0 1 1;cut 1 1 1 1;");
        y.begin(0);
        y.file(0, 0, 1);
        check.same("a corner is not beside", y.blow(0), 1);
        check.same("a corner is not beside", y.punch(2), 0);
        y.begin(0);
        y.file(0, 1, 1);
        check.same("a side is beside", y.blow(0), 4);
        check.same("a side is beside", y.punch(2), 1);
        y.begin(0);
        y.file(0, 1, 2);
        check.same("its own squares are gone, and one beside", y.blow(0), 3);
    }

    private static void plan() {
        check.promise(20);
        HollowPunches x = Texts.of(O + "letter;bar 0 0 8 8;");
        check.same("addBlow", x.addBlow(0), 1);
        check.noIndex("addBlow(1)", () -> x.addBlow(1));
        check.promise(21);
        for (int row = 0; row < 8; row++) {
            check.same("addFile", x.addFile(1, row, row < 4 ? 4 : 8), 2 + row);
        }
        check.illegal("side", () -> x.addFile(4, 0, 1));
        check.illegal("line", () -> x.addFile(0, 8, 1));
        check.illegal("n", () -> x.addFile(0, 0, 0));
        check.promise(23);
        check.same("never spoiled", x.judge(0, 0), NONE);
        check.same("done", x.judge(0, 1), 1);
        check.same("blows of others do nothing, files do", x.judge(1, 0), 1);
        check.same("not done", x.judge(1, 1), 0);
        check.noElement("judge(2, 0)", () -> x.judge(2, 0));
        check.illegal("judge(0, 2)", () -> x.judge(0, 2));
        check.same("a plan touches no punch", x.punch(0), NONE);
        for (int n = 10; n <= 40; n++) {
            x.addFile(0, 0, 1);
        }
        check.same("forty, the tenth spoils", x.judge(0, 0), 9);
        check.same("forty: not done", x.judge(0, 1), 0);
        check.promise(20);
        check.same("there are 40", x.addBlow(0), -1);
        check.noIndex("there are 40, and no such hollow", () -> x.addBlow(9));
        check.promise(21);
        check.same("there are 40", x.addFile(0, 0, 1), -1);
        check.illegal("there are 40, and no such side", () -> x.addFile(9, 0, 1));
        check.promise(22);
        check.same("clear", x.clear(), 40);
        check.same("clear", x.clear(), 0);
        check.promise(23);
        check.same("an empty plan", x.judge(0, 0), NONE);
        check.same("an empty plan", x.judge(0, 1), 0);
        check.same("an empty plan, all ink", x.judge(1, 1), 1);
        x.addFile(0, 1, 1);
        x.addBlow(0);
        check.same("a plan bursts", x.judge(0, 0), 0);
        x.clear();
        x.addFile(1, 1, 5);
        x.addBlow(0);
        check.same("the first act counts", x.judge(0, 0), 0);
    }

    private static void hours() {
        check.promise(24);
        HollowPunches x = Texts.of(O + "letter;bar 0 0 8 8;letter;");
        // 4 minutes, then 48 with 15 of 16: (4 + 45) by 15 of 16
        check.same("no slips", x.hours(0, 0, 0), 52266);
        check.same("no acts", x.hours(1, 15, 15), 0);
        check.same("no ink, no slips", x.hours(2, 0, 0), 64000);
        // Eight times 8 minutes, each going well by half: 8 times (2 + 4 + .. + 256)
        check.same("no ink, half slips", x.hours(2, 0, 8), 4080000);
        // 1 in 16 goes well: 8 times (16 + 16^2 + .. + 16^8)
        check.same("no ink, 15 of 16", x.hours(2, 0, 15), 8000L * 4581298448L);
        check.noElement("hours(3, 0, 0)", () -> x.hours(3, 0, 0));
        check.noElement("both wrong", () -> x.hours(3, 16, 0));
        check.illegal("c 16", () -> x.hours(0, 16, 0));
        check.illegal("c -1", () -> x.hours(0, -1, 0));
        check.illegal("s 16", () -> x.hours(0, 0, 16));
        check.illegal("s -1", () -> x.hours(0, 0, -1));
        check.promise(36);
        check.same("15 of 16", x.bars(0, 0, 0), 1066);
        check.same("a blow fails with 15 at most", x.bars(0, 15, 0), 16000);
        check.same("as with 14 and 1", x.bars(0, 14, 0), 16000);
        check.same("eight halves", x.bars(2, 0, 8), 256000);
        check.same("no acts", x.bars(1, 3, 3), 1000);
        check.noElement("bars(3, 0, 0)", () -> x.bars(3, 0, 0));
        check.illegal("c", () -> x.bars(0, 16, 0));
        check.illegal("s", () -> x.bars(0, 0, -1));
    }

    private static void orders() {
        check.promise(25);
        // Hollows of 8, 1, 4 and 2 squares: fails 2, 0, 1, 0 of 16 with c 0: the first two as 4 by 1
        HollowPunches x = Texts.of("letter;bar 0 0 8 8;cut 1 1 4 2;cut 6 1 1 1;cut 1 4 2 2;cut 4 4 2 1;");
        int[] none = {0, 2, 1, 3, NONE};
        for (int k = 0; k < none.length; k++) {
            check.same("c 0, act " + k, x.order(0, 0, 0, k), none[k]);
        }
        // With c 1: 8 by 3, 1 by 1, 4 by 2, 2 by 1: 1, then 2 and 3 (both 2), then 0
        int[] one = {1, 2, 3, 0, NONE};
        for (int k = 0; k < one.length; k++) {
            check.same("c 1, act " + k, x.order(0, 1, 0, k), one[k]);
        }
        check.same("k -1", x.order(0, 0, 0, -1), NONE);
        check.same("k far out", x.order(0, 0, 0, Integer.MAX_VALUE), NONE);
        check.promise(24);
        // In the order 0, 2, 1, 3: 8 + 14/16 (4 + 15/16 (1 + 2)), by 14/16 times 15/16: 17.02...
        check.same("hours", x.hours(0, 0, 0), 17019);
        check.promise(25);
        HollowPunches y = Texts.of("letter;bar 0 0 8 8;cut 0 0 5 1;cut 7 2 1 1;cut 3 6 1 2;cut 2 3 1 1;");
        check.same("a blow comes first", y.order(0, 0, 3, 0), 0);
        check.same("then the least bite", y.order(0, 0, 3, 1), 110);
        check.same("then that of two", y.order(0, 0, 3, 2), 127);
        check.same("then that of five", y.order(0, 0, 3, 3), 100);
        check.same("without slips by lines", y.order(0, 0, 0, 1), 100);
        check.same("without slips by lines", y.order(0, 0, 0, 2), 110);
        check.same("without slips by lines", y.order(0, 0, 0, 3), 127);
        check.noElement("order(1, ..)", () -> y.order(1, 0, 0, 0));
        check.illegal("c", () -> y.order(0, 16, 0, 0));
        check.illegal("s", () -> y.order(0, 0, -1, 0));
    }

    private static void manyActs() {
        String eleven = "letter;bar 0 0 8 8;cut 1 1 1 1;cut 3 1 1 1;cut 5 1 1 1;cut 1 3 1 1;cut 3 3 1 1;cut 5 3 1 1;"
                + "cut 1 5 1 1;cut 3 5 1 1;cut 5 5 1 1;cut 7 7 1 1;cut 0 0 1 1;";
        HollowPunches x = Texts.of(eleven + "turned 0;cut 0 2 1 1;");
        check.promise(36);
        check.same("eleven acts", x.bars(0, 0, 0), 1000);
        check.same("eleven acts", x.bars(0, 15, 15), 1000L << 44);
        check.same("seven blows of the second", x.letter(1, 4), 7);
        check.same("ten acts", x.bars(1, 15, 15), 1000L << 40);
        check.promise(24);
        // Eleven acts of one minute, each going well once in 16: 16 + .. + 16^11
        check.same("the longest", x.hours(0, 15, 15), 1000L * (((1L << 48) - 16) / 15));
        check.promise(25);
        check.same("the last", x.order(0, 15, 15, 10), 123 - 8);
        HollowPunches y = Texts.of(eleven + "cut 7 0 1 1;");
        check.promise(24);
        check.same("twelve", y.hours(0, 0, 0), NONE);
        check.promise(25);
        check.same("twelve", y.order(0, 0, 0, 0), NONE);
        check.promise(36);
        check.same("twelve", y.bars(0, 0, 0), NONE);
        check.illegal("twelve, and c", () -> y.bars(0, 16, 0));
    }

    private static void black() {
        check.promise(26);
        HollowPunches x = Texts.of(O + "letter;spread 2 16;spread 3 0;");
        check.same("without", x.black(0, 1), 192 + 48);
        check.same("16", x.black(0, 2), 192 + 192);
        check.same("0", x.black(0, 3), 192);
        check.same("no ink", x.black(1, 2), 0);
        check.illegal("size 0", () -> x.black(0, 0));
        check.illegal("size 10", () -> x.black(0, 10));
        check.noElement("letter 2", () -> x.black(2, 1));
        check.noElement("both wrong", () -> x.black(-1, 0));
    }

    private static void colour() {
        check.promise(27);
        // O: black 240 of 4 columns; bar: 8 of ink, edge 8: black 160 of 1 column; no ink: 0 of 0
        HollowPunches x = Texts.of(O + "letter;bar 0 0 1 8;letter;word 01;word 0;word 11;word 2;spread 5 0;");
        check.same("01", x.colour(0, 1, 0), 1000 * 400 / (16 * 5));
        check.same("0", x.colour(1, 1, 0), 3750);
        check.same("11", x.colour(2, 1, 0), 10000);
        check.same("no ink, no room", x.colour(3, 1, 0), 0);
        check.same("no ink", x.colour(3, 1, 25), 0);
        check.same("room 1 for 0, 2 for 1", x.colour(0, 1, 11), 1000 * 400 / (16 * 8));
        check.same("room 4 for 1, twice", x.colour(2, 1, 20), 2000);
        check.same("rooms of no letter", x.colour(1, 1, 9765624 - 4), 3750);
        check.same("the greatest room", x.colour(1, 1, 9765624), 1875);
        check.same("spread 0", x.colour(0, 5, 0), 1000 * 320 / (16 * 5));
        check.noIndex("word 4", () -> x.colour(4, 1, 0));
        check.noIndex("word -1, all wrong", () -> x.colour(-1, 0, -1));
        check.illegal("size", () -> x.colour(0, 10, 0));
        check.illegal("room", () -> x.colour(0, 1, -1));
        check.illegal("room", () -> x.colour(0, 1, 9765625));
        HollowPunches ten = Texts.of(times(10, "letter;bar 0 0 1 1;") + "word 0;word 2;word 3;word 5;word 7;word 9;");
        int room = 1;
        for (int letter = 0; letter < 10; letter++) {
            for (int word = 0; word < 6; word++) {
                boolean its = letter == new int[] {0, 2, 3, 5, 7, 9}[word];
                check.same("room of " + letter, ten.colour(word, 1, 4 * room), its ? 300 : 1500);
            }
            room *= 5;
        }
        check.promise(28);
        check.same("uneven", x.uneven(1, 0), 10000);
        HollowPunches y = Texts.of(O + "letter;bar 0 0 1 8;word 01;word 0;word 11;");
        check.same("uneven", y.uneven(1, 0), 10000 - 3750);
        check.same("uneven", y.uneven(1, 20), 3750 - 2000);
        check.illegal("size", () -> y.uneven(0, 0));
        check.illegal("room", () -> y.uneven(1, 9765625));
        check.same("without words", new HollowPunches().uneven(1, 0), 0);
        check.illegal("without words, size", () -> new HollowPunches().uneven(0, 0));
    }

    private static void even() {
        check.promise(29);
        // Two bars, of 1 and 2 columns: 16 by (1 + r) and 32 by (2 + q), spread 0: even with no room
        HollowPunches x = Texts.of("letter;bar 0 0 1 8;letter;bar 0 0 2 8;word 0;word 1;spread 1 0;");
        check.same("even by itself", x.even(1), 0);
        // With 4: 160 by 1 + r, 288 by 2 + q: 10000, 5000, 3333, 2500, 2000; 9000, 6000, 4500, 3600, 3000
        check.same("nearest are 3333 and 3600", x.even(2), 2 + 5 * 3);
        check.same("its uneven", x.uneven(2, 17), 3600 - 3333);
        HollowPunches one = Texts.of("letter;letter;bar 0 0 3 3;word 111;");
        check.same("one word is even", one.even(1), 0);
        HollowPunches six = Texts.of(times(10, "letter;") + "bar 0 0 1 1;word 456789;");
        check.same("six letters", six.even(1), 0);
        HollowPunches seven = Texts.of(times(10, "letter;") + "bar 0 0 1 1;word 456789;word 3;");
        check.same("seven letters", seven.even(1), NONE);
        HollowPunches high = Texts.of(times(9, "letter;") + "bar 0 0 1 8;letter;bar 0 0 2 8;word 8;word 9;");
        check.same("of letters 8 and 9", high.even(1), 2 * 390625 + 3 * 1953125);
        check.illegal("size", () -> high.even(0));
        check.illegal("size", () -> high.even(10));
    }

    private static void press() {
        check.promise(30);
        // 320 and 20 G by 16 times 5; 192 and 12 G by 16 times 4: 4000 and 250 G, 3000 and 187.5 G (cut)
        HollowPunches x = Texts.of(O + "letter;bar 0 0 1 8;word 01;word 0;spread 1 16;");
        check.same("exactly", x.press(3500), 0);
        check.same("below all", x.press(0), 0);
        check.same("above all", x.press(99999), 16);
        check.same("4375 with 4", x.press(4375), 4);
        check.same("3718 with 1, 3937 with 2", x.press(3828), 2);
        check.same("3718 with 1, 3937 with 2", x.press(3827), 1);
        check.illegal("-1", () -> x.press(-1));
        check.illegal("100000", () -> x.press(100000));
        check.same("without words", Texts.of(O).press(5), NONE);
        check.illegal("without words, -1", () -> new HollowPunches().press(-1));
        HollowPunches same = Texts.of("letter;bar 0 0 8 8;word 0;");
        check.same("of these the least", same.press(1), 0);
    }

    private static void prints() {
        check.promise(31);
        HollowPunches x = new HollowPunches();
        check.illegal("none", () -> x.print(0));
        check.same("a corner", x.print(1L << 63), 1);
        check.same("a bar of 3", x.print(7), 2);
        check.same("a bar of 2 upright", x.print(0x0101L << 20), 3);
        check.same("an L", x.print(Texts.squares("#", "#", "##")), 4);
        check.same("its mirror", x.print(Texts.squares("......#", "......#", ".....##")), 5);
        check.promise(32);
        check.same("to itself", x.kin(0, 0, 0, false), true);
        check.same("1 and 3 by 2", x.kin(0, 1, 1, false), false);
        check.same("1 and 3 by 2", x.kin(0, 1, 2, false), true);
        check.same("turned", x.kin(1, 2, 1, false), true);
        check.same("turned", x.kin(1, 2, 0, false), false);
        check.same("no mirrors", x.kin(3, 4, 1, false), false);
        check.same("mirrors", x.kin(3, 4, 0, true), true);
        check.noIndex("print 5", () -> x.kin(5, 0, 0, false));
        check.noIndex("other 5", () -> x.kin(0, 5, 0, false));
        check.noIndex("all wrong", () -> x.kin(-1, 0, 65, false));
        check.illegal("w 65", () -> x.kin(0, 0, 65, false));
        check.illegal("w -1", () -> x.kin(0, 0, -1, false));
        HollowPunches y = new HollowPunches();
        y.print(Texts.squares("#"));
        y.print(Texts.squares(".#", "#"));
        check.same("neither way by 0", y.kin(0, 1, 0, false), false);
        check.same("one way by 3, the other way by 1", y.kin(0, 1, 1, false), true);
        check.same("and so told the other way", y.kin(1, 0, 1, false), true);
        check.promise(31);
        for (int n = 3; n <= 8; n++) {
            check.same("print", y.print(n), n);
        }
        check.same("there are 8", y.print(1), -1);
        check.illegal("there are 8, and none", () -> y.print(0));
    }

    private static void partings() {
        check.promise(33);
        HollowPunches x = new HollowPunches();
        check.same("no prints", x.partings(0, false, 0), 1);
        check.same("no groups", x.partings(64, true, 1), 0);
        check.same("none alone", x.partings(0, false, 2), 0);
        for (int n = 0; n < 8; n++) {
            x.print(1L << n);
        }
        check.same("all alike", x.partings(0, false, 0), 4140);
        check.same("one group", x.partings(0, false, 1), 1);
        check.same("none always alone", x.partings(0, false, 2), 0);
        HollowPunches y = new HollowPunches();
        y.print(1);
        y.print(3);
        y.print(7);
        y.print(-1L);
        check.same("1 and 2, 2 and 3, not 1 and 3", y.partings(1, false, 0), 3);
        check.same("two groups and the great one", y.partings(1, false, 1), 3);
        check.same("the great one", y.partings(1, false, 2), 8);
        check.same("within 0", y.partings(0, false, 0), 1);
        check.same("within 0", y.partings(0, false, 1), 4);
        check.same("within 0", y.partings(0, false, 2), 15);
        check.same("within 64", y.partings(64, false, 0), 15);
        check.illegal("w", () -> y.partings(65, false, 0));
        check.illegal("w", () -> y.partings(-1, false, 0));
        check.illegal("what", () -> y.partings(0, false, 3));
        HollowPunches z = new HollowPunches();
        z.print(Texts.squares("#", "#", "##"));
        z.print(Texts.squares(".#", ".#", "##"));
        check.same("no mirrors", z.partings(0, false, 0), 1);
        check.same("mirrors", z.partings(0, true, 0), 2);
    }

    private static void canAndLeft() {
        check.promise(34);
        HollowPunches x = Texts.of("letter;ring 0 0 6 6;cut 2 5 1 1;" + O);
        check.same("no punch", x.can(), false);
        check.promise(35);
        check.same("no punch", x.left(), NONE);
        x.begin(0);
        check.promise(34);
        check.same("a new one", x.can(), true);
        check.promise(35);
        // Two hollows, the slot, and rows 6 and 7 with columns 6 and 7
        check.same("a new one", x.left(), 2 + 1 + 4);
        x.file(3, 2, 3);
        check.same("the slot's mouth is beside none", x.left(), 7);
        x.file(3, 2, 4);
        check.promise(34);
        check.same("the slot is open beside both hollows", x.can(), false);
        check.same("yet it is good", x.punch(0), 1);
        check.promise(35);
        check.same("it can not", x.left(), NONE);
        x.begin(0);
        x.blow(0);
        x.blow(1);
        check.same("hollows ahead", x.left(), 5);
        x.file(3, 2, 7);
        check.same("then the slot", x.left(), 4);
        x.file(1, 0, 2);
        check.same("a part of two columns", x.left(), 4);
        x.file(2, 7, 8);
        check.same("one column", x.left(), 3);
        x.begin(1);
        x.file(0, 0, 1);
        check.promise(34);
        check.same("not good", x.can(), false);
        HollowPunches one = Texts.of("letter;ring 0 0 6 6;cut 4 5 1 1;");
        one.begin(0);
        one.file(3, 4, 3);
        check.same("not beside the hollow", one.can(), true);
        one.file(3, 4, 4);
        check.same("beside the hollow", one.can(), false);
        one.begin(0);
        one.blow(0);
        one.file(3, 4, 4);
        check.same("the hollow is gone", one.can(), true);
        HollowPunches done = Texts.of("letter;bar 0 0 8 8;");
        done.begin(0);
        check.same("all ink", done.can(), true);
        check.promise(35);
        check.same("all ink", done.left(), 0);
    }

    private static void nearest() {
        check.promise(37);
        HollowPunches x = Texts.of("letter;bar 0 0 8 8;cut 1 1 1 2;cut 2 2 1 1;"
                + "letter;bar 0 0 8 8;cut 1 1 1 3;cut 2 3 1 1;");
        check.same("the hollow is turned", x.nearest(Texts.squares("#", "##"), false, 0), 0);
        check.same("by 0", x.nearest(Texts.squares("#", "##"), false, 1), 0);
        check.same("the first of the best", x.nearest(Texts.squares("##", "##"), false, 0), 0);
        check.same("by 2", x.nearest(Texts.squares("#"), false, 1), 2);
        check.same("by 3 from the other", x.nearest(Texts.squares("#"), false, 0), 0);
        HollowPunches twice = Texts.of("letter;bar 0 0 8 8;cut 1 1 1 1;cut 3 3 1 1;cut 5 5 1 1;");
        check.same("all alike", twice.nearest(2, false, 0), 0);
        check.same("the other", x.nearest(Texts.squares("###", "#") << 27, false, 0), 1);
        check.same("a mirror image", x.nearest(Texts.squares("####", "#"), false, 1), 1);
        check.same("no mirrors", x.nearest(Texts.squares("###", "..#"), false, 1), 2);
        check.same("mirrors", x.nearest(Texts.squares("###", "..#"), true, 1), 0);
        check.illegal("none", () -> x.nearest(0, false, 0));
        check.illegal("what", () -> x.nearest(1, false, 2));
        check.illegal("what", () -> x.nearest(1, false, -1));
        HollowPunches y = Texts.of("letter;");
        check.same("no hollows", y.nearest(1, false, 0), NONE);
        check.same("no hollows", y.nearest(1, true, 1), NONE);
        check.illegal("no hollows, none", () -> y.nearest(0, true, 1));
    }

    private static void originals() {
        check.promise(38);
        HollowPunches x = Texts.of("letter;letter;bar 0 0 1 3;bar 1 2 1 1;turned 1;mirror 1;letter;"
                + "letter;bar 2 2 3 1;bar 2 3 1 1;letter;bar 5 5 1 1;");
        check.same("no mirrors", x.originals(false, 1), 2 + 8 + 64);
        check.same("no mirrors", x.originals(false, 0), 3);
        check.same("mirrors", x.originals(true, 1), 2 + 64);
        check.same("mirrors", x.originals(true, 0), 2);
        check.illegal("what", () -> x.originals(true, 2));
        check.illegal("what", () -> x.originals(true, -1));
    }

    private static void fount() {
        check.promise(39);
        HollowPunches x = Texts.of(THREE);
        check.same("one size, two counterpunches", x.fount(1, 0, false), 2);
        check.same("nine sizes", x.fount(511, 0, false), 18);
        // 16 times 81 is 36 times 36: with 20 they go together, with 19 9 stands apart
        check.same("6 to 9 with 20", x.fount(0b111100000, 20, false), 2);
        check.same("6 to 9 with 19", x.fount(0b111100000, 19, false), 4);
        check.same("1, 2, 4, 8 with 48", x.fount(0b10001011, 48, true), 4);
        check.same("1, 2, 4, 8 with 47", x.fount(0b10001011, 47, true), 8);
        check.same("5 and 9: 1296 by 1300", x.fount(0b100010000, 36, true), 2);
        check.same("5 and 9: 1296 by 1275", x.fount(0b100010000, 35, true), 4);
        check.same("no hollows", Texts.of("letter;").fount(7, 9, true), 0);
        check.illegal("bits 0", () -> x.fount(0, 0, false));
        check.illegal("bits 512", () -> x.fount(512, 0, false));
        check.illegal("t -1", () -> x.fount(1, -1, false));
        check.illegal("t 100", () -> x.fount(1, 100, false));
    }

    private static void images() {
        check.promise(40);
        HollowPunches x = Texts.of(O);
        check.same("of nothing", x.image(), 1);
        x.begin(0);
        x.file(0, 1, 1);
        x.blow(0);
        x.addBlow(0);
        x.print(5);
        check.same("second", x.image(), 2);
        x.begin(0);
        x.addFile(0, 0, 8);
        x.addFile(0, 1, 8);
        x.print(6);
        check.same("third", x.image(), 3);
        check.same("there are 3", x.image(), -1);
        check.same("count(2)", x.count(2), 3);
        x.clear();
        x.addFile(3, 3, 3);
        Texts.put(x, "letter;");
        check.promise(41);
        check.same("the latest", x.restore(), 2);
        check.same("its plan", x.count(0), 3);
        check.same("its plan's acts", x.judge(0, 0), 1);
        check.same("its prints", x.count(1), 2);
        check.same("its punch", x.steel(), -1L);
        check.same("its punch has not burst", x.punch(2), 0);
        check.same("the tape is none of it", x.count(3), 20);
        x.print(9);
        check.same("the second", x.restore(), 1);
        check.same("its plan", x.count(0), 1);
        check.same("its prints", x.count(1), 1);
        check.same("its print", x.kin(0, 0, 0, false), true);
        check.same("its punch has burst", x.punch(2), 1);
        check.same("its steel", Long.bitCount(x.steel()), 64 - 12);
        check.same("the first", x.restore(), 0);
        check.same("no punch", x.punch(0), NONE);
        check.same("no plan", x.count(0), 0);
        check.same("no prints", x.count(1), 0);
        check.same("none left", x.restore(), -1);
    }

    private static void counts() {
        check.promise(42);
        HollowPunches x = Texts.of(O);
        x.addBlow(0);
        x.addBlow(0);
        x.print(1);
        x.image();
        x.image();
        x.image();
        Texts.put(x, "letter;letter;letter;");
        check.same("acts", x.count(0), 2);
        check.same("prints", x.count(1), 1);
        check.same("images", x.count(2), 3);
        check.same("bytes", x.count(3), 40);
        check.same("others", x.count(4), NONE);
        check.same("others", x.count(-1), NONE);
    }
}
