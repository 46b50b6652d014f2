/** Boundary cases of the tape and of the text that it carries: promises 1 to 5, and what the terms say of a SHEET. */
final class SheetBoundaries extends Boundaries {
    private static final int STRANGE = 1;
    private static final int NO_SUCH_NUMBER = 2;
    private static final int TOO_MANY = 3;

    SheetBoundaries(DocCheck check) {
        super(check);
    }

    @Override
    void run() {
        newObject();
        lettersOfNewObject();
        lastCall();
        feeds();
        fullTape();
        firstBytes();
        allNew();
        allGone();
        allStays();
        outsideTheTape();
        faultPlaces();
        toldNumbers();
        lengths();
        letters();
        copies();
        drawings();
        words();
        spreads();
        ranges();
        numbers();
        keywords();
        blanks();
        firstFault();
        earlyEnds();
        strangeThings();
        wrongNumbers();
        tooMany();
    }

    private void right(String text, int letters) {
        HollowPunches x = new HollowPunches();
        check.same("sheet of " + text, Texts.tell(x, text), letters);
        check.same("fault of " + text, x.fault(), NONE);
    }

    private void fault(String text, int kind, int place) {
        HollowPunches x = new HollowPunches();
        check.same("sheet of " + text, Texts.tell(x, text), kind - 10);
        check.same("fault of " + text, x.fault(), place);
    }

    private void newObject() {
        check.says(1, "No SHEET: no LETTERS.");
        HollowPunches x = new HollowPunches();
        for (int what = 0; what < 3; what++) {
            check.same("told", x.told(what), 0);
            check.same("punch", x.punch(what), NONE);
        }
        for (int what = 0; what < 4; what++) {
            check.same("count", x.count(what), 0);
        }
        check.same("fault()", x.fault(), NONE);
        check.same("punches", x.punches(0, false, 0), 0);
        check.same("punches", x.punches(64, true, 1), 0);
        check.same("file", x.file(0, 0, 8), -1);
        check.same("steel()", x.steel(), 0);
        check.same("uneven", x.uneven(9, 9765624), 0);
        check.same("even", x.even(1), 0);
        check.same("press", x.press(0), NONE);
        check.same("partings", x.partings(0, false, 0), 1);
        check.same("can()", x.can(), false);
        check.same("left()", x.left(), NONE);
        check.same("nearest", x.nearest(1, false, 0), NONE);
        check.same("originals", x.originals(true, 0), 0);
        check.same("fount", x.fount(511, 0, false), 0);
        check.same("clear()", x.clear(), 0);
        check.same("restore()", x.restore(), -1);
        check.same("a file may be planned", x.addFile(0, 0, 1), 1);
        check.same("a print may be told", x.print(1), 1);
        check.same("image()", x.image(), 1);
    }

    private void lettersOfNewObject() {
        check.says(1, "No SHEET: no LETTERS.");
        HollowPunches x = new HollowPunches();
        check.noElement("squares", () -> x.squares(0, 0));
        check.noElement("letter", () -> x.letter(0, 0));
        check.noElement("bites", () -> x.bites(0, 0));
        check.noElement("lines", () -> x.lines(0));
        check.noElement("begin", () -> x.begin(0));
        check.noElement("judge", () -> x.judge(0, 0));
        check.noElement("hours", () -> x.hours(0, 0, 0));
        check.noElement("order", () -> x.order(0, 0, 0, 0));
        check.noElement("bars", () -> x.bars(0, 0, 0));
        check.noElement("black", () -> x.black(0, 1));
        check.noIndex("hollow", () -> x.hollow(0));
        check.noIndex("apart", () -> x.apart(0, 0, false));
        check.noIndex("served", () -> x.served(0, 0, false));
        check.noIndex("blow", () -> x.blow(0));
        check.noIndex("addBlow", () -> x.addBlow(0));
        check.noIndex("colour", () -> x.colour(0, 1, 0));
        check.noIndex("kin", () -> x.kin(0, 0, 0, false));
    }

    private void lastCall() {
        check.says(3, "An object is used for at most 512 calls after it has been made; what later calls answer is "
                + "free.");
        HollowPunches x = new HollowPunches();
        for (int calls = 0; calls < 510; calls += 2) {
            check.same("feed", x.feed(0x6c657474, 0x65723b20, 0x6c657474, 0x65723b20, 0x20202020), 20);
            check.same("sheet", x.sheet(20), 2);
        }
        x.begin(1);
        check.same("the 512th call", x.steel(), -1L);
    }

    private void feeds() {
        check.says(2, "Twenty bytes come on the TAPE, of each number the highest first: how many there are;");
        for (int place = 0; place < 20; place++) {
            for (char sign : new char[] {'x', 127, 128, 255, 0}) {
                StringBuilder text = new StringBuilder(" ".repeat(20));
                text.setCharAt(place, sign);
                fault(text.toString(), STRANGE, place);
            }
        }
        HollowPunches x = new HollowPunches();
        check.same("feed", x.feed(-1, LOW, HIGH, 0, 1), 20);
        check.same("feed", x.feed(0, 0, 0, 0, 0), 40);
        check.same("sheet(0)", x.sheet(0), 0);
        check.same("feed on an empty tape", x.feed(0, 0, 0, 0, 0), 20);
    }

    private void fullTape() {
        check.says(2, "NONE, doing nothing, if there would be more than 500.");
        HollowPunches x = new HollowPunches();
        Texts.put(x, " ".repeat(473) + "letter;");
        check.same("count(3)", x.count(3), 480);
        check.same("just 500", x.feed(0x6c657474, 0x65723b20, 0x6c657474, 0x65723b20, 0x20202020), 500);
        check.same("more than 500", x.feed(0x78787878, 0, 0, 0, 0), NONE);
        check.same("more than 500", x.feed(-1, -1, -1, -1, -1), NONE);
        check.same("the tape is as it was", x.count(3), 500);
        check.same("its text is as it was", x.sheet(500), 3);
        check.same("no fault", x.fault(), NONE);
        check.same("there is room again", x.feed(0, 0, 0, 0, 0), 20);
    }

    private void firstBytes() {
        check.says(3, "The first n bytes of the TAPE (empty then) are the SHEET (PUNCH, PLAN, PRINTS, IMAGES gone): "
                + "how many LETTERS;");
        HollowPunches x = new HollowPunches();
        Texts.put(x, "letter;letter;letter;xxxxx");
        check.same("the first 14 of 40", x.sheet(14), 2);
        check.same("the tape is empty", x.count(3), 0);
        check.same("told(0)", x.told(0), 2);
        Texts.put(x, "letter;");
        check.same("the rest did not stay", x.sheet(7), 1);
        check.same("sheet(0) on an empty tape", x.sheet(0), 0);
        check.same("no letters", x.told(0), 0);
        Texts.put(x, "xx");
        check.same("sheet(0) on a tape", x.sheet(0), 0);
        check.same("the tape is empty", x.count(3), 0);
        Texts.put(x, TEN_LETTERS);
        check.same("ten", x.sheet(70), 10);
        check.same("no fault", x.fault(), NONE);
        Texts.put(x, " ".repeat(20));
        check.same("all bytes", x.sheet(20), 0);
    }

    /** What was asked of one sheet must not be answered of the next one. */
    private void allNew() {
        check.says(3, "The first n bytes of the TAPE (empty then) are the SHEET");
        String first = "letter;bar 0 0 8 8;cut 1 1 2 2;cut 5 5 1 1;cut 0 3 2 1;letter;bar 0 0 1 8;word 0;word 1;";
        String second = "letter;bar 0 0 8 8;cut 5 5 1 1;cut 3 6 1 2;letter;bar 0 0 2 8;letter;bar 0 0 1 8;"
                + "word 2;word 1;";
        HollowPunches x = new HollowPunches();
        for (int turn = 0; turn < 3; turn++) {
            check.same("the first", Texts.tell(x, first), 2);
            check.same("lines", x.lines(0), 1L << 3);
            check.same("hollow", x.hollow(0), 0x060600);
            check.same("punches", x.punches(0, false, 1), 3);
            check.same("apart", x.apart(1, 0, false), 3);
            check.same("hours: 4, and 15 of 16 times 3, by 15 of 16", x.hours(0, 0, 0), 7266);
            check.same("even: 4895 and 5000", x.even(1), 4 + 5);
            check.same("press: means of 7839 and 8117 with 1 and 2", x.press(8000), 2);
            check.same("originals", x.originals(false, 1), 3);
            check.same("broad", x.letter(1, 2), 1);
            check.same("the second", Texts.tell(x, second), 3);
            check.same("lines", x.lines(0), 1L << 27);
            check.same("hollow", x.hollow(0), 1L << 45);
            check.same("punches", x.punches(0, false, 1), 1);
            check.noIndex("hollow", () -> x.hollow(1));
            check.same("hours", x.hours(0, 0, 0), 3000);
            check.same("even: 3333 and 3600", x.even(1), 3 * 5 + 2 * 25);
            check.same("press", x.press(8000), 0);
            check.same("originals", x.originals(false, 1), 7);
            check.same("broad", x.letter(1, 2), 2);
        }
    }

    private void allGone() {
        check.says(3, "(PUNCH, PLAN, PRINTS, IMAGES gone)");
        for (String text : new String[] {"", O, "letter;letter;"}) {
            HollowPunches x = busy();
            Texts.tell(x, text);
            check.same("no punch", x.punch(2), NONE);
            check.same("no steel", x.steel(), 0);
            check.same("can()", x.can(), false);
            check.same("no plan", x.count(0), 0);
            check.same("no prints", x.count(1), 0);
            check.same("no images", x.count(2), 0);
            check.same("restore()", x.restore(), -1);
            check.same("clear()", x.clear(), 0);
            check.same("words", x.told(1), 0);
            check.same("partings", x.partings(0, false, 0), 1);
        }
        HollowPunches x = busy();
        Texts.tell(x, O);
        check.same("spread is as without", x.black(0, 3), 16 * 12 + 4 * 12);
        check.same("a new plan", x.addBlow(0), 1);
        check.same("a new print", x.print(2), 1);
        check.same("a new image", x.image(), 1);
    }

    /** A PUNCH that has burst, two ACTS, a PRINT and three IMAGES. */
    private static HollowPunches busy() {
        HollowPunches x = Texts.of(O + "word 00;spread 3 9;");
        x.begin(0);
        x.file(0, 1, 1);
        x.blow(0);
        x.addBlow(0);
        x.addFile(0, 0, 1);
        x.print(5);
        x.image();
        x.image();
        x.image();
        return x;
    }

    private void allStays() {
        check.says(3, "or the FAULT less 10 (all stays).");
        String[] texts = {"letter;letter;x", "letter;letter;word 02;", TEN_LETTERS + "letter;"};
        for (int k = 0; k < 3; k++) {
            HollowPunches x = busy();
            check.same("the fault less 10", Texts.tell(x, texts[k]), k + 1 - 10);
            check.same("letters", x.told(0), 1);
            check.same("words", x.told(1), 1);
            check.same("hollows", x.told(2), 1);
            check.same("ink", x.squares(0, 0), Texts.squares("####", "#..#", "#..#", "####"));
            check.same("spread", x.black(0, 3), 16 * 12 + 9 * 12);
            check.same("the punch", x.steel(), ~Texts.squares(".##.", "####", "####", ".##."));
            check.same("it has burst", x.punch(2), 1);
            check.same("the plan", x.count(0), 2);
            check.same("its acts", x.judge(0, 0), 1);
            check.same("prints", x.count(1), 1);
            check.same("images", x.count(2), 3);
            check.same("the tape is empty all the same", x.count(3), 0);
            check.same("restore()", x.restore(), 2);
        }
    }

    private void outsideTheTape() {
        check.says(3, "IllegalArgumentException: n is not 0 to the TAPE's bytes (it stays).");
        HollowPunches x = busy();
        check.illegal("sheet(1) of none", () -> x.sheet(1));
        check.illegal("sheet(-1) of none", () -> x.sheet(-1));
        Texts.put(x, "letter;letter;      ");
        for (int n : new int[] {-1, 21, 500, LOW, HIGH}) {
            check.illegal("sheet(" + n + ") of 20", () -> x.sheet(n));
        }
        check.same("the tape stays", x.count(3), 20);
        check.same("the punch stays", x.punch(2), 1);
        check.same("all stays", x.count(0) + x.count(1) + x.count(2), 6);
        check.same("letters stay", x.told(0), 1);
        check.same("the text stays", x.sheet(20), 2);
        Texts.put(x, " ".repeat(500));
        check.illegal("sheet(501) of 500", () -> x.sheet(501));
        check.same("sheet(500) of 500", x.sheet(500), 0);
    }

    private void faultPlaces() {
        check.says(4, "The place of the FAULT of the latest sheet(); NONE without.");
        HollowPunches x = new HollowPunches();
        check.same("without a sheet", x.fault(), NONE);
        Texts.tell(x, "x");
        check.same("at the first byte", x.fault(), 0);
        Texts.tell(x, " ".repeat(499) + "x");
        check.same("at the last byte", x.fault(), 499);
        Texts.tell(x, " ".repeat(494) + "letter");
        check.same("at the length", x.fault(), 500);
        check.same("asked again", x.fault(), 500);
        check.illegal("no sheet", () -> x.sheet(1));
        check.same("a call that throws reads no sheet", x.fault(), 500);
        Texts.tell(x, "letter;");
        check.same("none any more", x.fault(), NONE);
        Texts.tell(x, "letter;1");
        check.same("one again", x.fault(), 7);
        x.sheet(0);
        check.same("an empty sheet has none", x.fault(), NONE);
    }

    private void toldNumbers() {
        check.says(5, "0 LETTERS, 1 WORDS, 2 HOLLOWS.");
        HollowPunches x = Texts.of(NINE + Texts.times(9, "turned 0;") + Texts.times(6, "word 0;"));
        check.same("ten letters", x.told(0), 10);
        check.same("six words", x.told(1), 6);
        check.same("sixteen hollows", x.told(2), 16);
        HollowPunches y = Texts.of("letter;word 0;word 0;" + O);
        check.same("letters", y.told(0), 2);
        check.same("words", y.told(1), 2);
        check.same("hollows", y.told(2), 1);
        check.says(5, "IllegalArgumentException: another what (so below).");
        for (int what : new int[] {-1, 3, LOW, HIGH}) {
            check.illegal("told(" + what + ")", () -> x.told(what));
            check.illegal("told(" + what + ") without a sheet", () -> new HollowPunches().told(what));
        }
    }

    private void lengths() {
        check.says(3, "A SHEET is a text of up to 500 bytes: { CLAUSE \";\" }, at most 60.");
        right("", 0);
        fault(";", STRANGE, 0);
        right(" ".repeat(493) + "letter;", 1);
        right("letter" + " ".repeat(493) + ";", 1);
        fault("letter" + " ".repeat(494), STRANGE, 500);
        fault(" ".repeat(492) + "letter;x", STRANGE, 499);
        // 500 bytes hold 55 clauses at most: ten letters, six words of one digit, the rest of ten bytes each
        String most = TEN_LETTERS + Texts.times(6, "word0;") + Texts.times(39, "spread1 1;");
        right(most, 10);
        fault(most + "bar ", STRANGE, 500);
    }

    private void letters() {
        check.says(3, "CLAUSE: \"letter\" (a LETTER, numbered from 0 on, 10 at most: no INK at first),");
        right("letter;", 1);
        right(TEN_LETTERS, 10);
        fault(TEN_LETTERS + "letter;", TOO_MANY, 70);
        fault(TEN_LETTERS + " letter", TOO_MANY, 71);
        HollowPunches x = Texts.of(TEN_LETTERS + "bar 7 7 1 1;");
        for (int letter = 0; letter < 9; letter++) {
            check.same("no ink in " + letter, x.squares(letter, 0), 0);
        }
        check.same("the tenth is number 9", x.squares(9, 0), 1L << 63);
        HollowPunches y = Texts.of("letter;bar 0 0 8 8;letter;");
        check.same("a new letter has no ink", y.squares(1, 0), 0);
        check.same("the first keeps its ink", y.squares(0, 0), -1L);
    }

    private void copies() {
        check.says(3, "\"turned\" K (a LETTER more: LETTER K turned by half),");
        String corner = "letter;bar 0 0 1 1;bar 1 0 1 1;bar 0 3 1 1;";
        HollowPunches x = Texts.of(corner + "turned 0;turned 1;letter;turned 3;letter;bar 0 0 8 8;turned 5;");
        check.same("corners change", x.squares(1, 0), 1L << 63 | 1L << 62 | 1L << 63 - 24);
        check.same("twice is none", x.squares(2, 0), x.squares(0, 0));
        check.same("no ink", x.squares(4, 0), 0);
        check.same("all ink", x.squares(6, 0), -1L);
        right(Texts.times(9, "letter;") + "turned 8;", 10);
        fault(TEN_LETTERS + "turned 0;", TOO_MANY, 70);
        HollowPunches y = Texts.of(corner + "turned 0;bar 3 3 1 1;");
        check.same("it is the latest letter then", y.squares(1, 0), 1L << 63 | 1L << 62 | 1L << 39 | 1L << 27);
        check.same("the first one stays", y.squares(0, 0), 3 | 1L << 24);
        check.says(3, "\"mirror\" K (likewise, left for right),");
        HollowPunches z = Texts.of(corner + "mirror 0;mirror 1;letter;mirror 3;letter;bar 0 0 8 8;mirror 5;");
        check.same("left for right", z.squares(1, 0), 1L << 7 | 1L << 6 | 1L << 31);
        check.same("twice is none", z.squares(2, 0), z.squares(0, 0));
        check.same("no ink", z.squares(4, 0), 0);
        check.same("all ink", z.squares(6, 0), -1L);
        right(Texts.times(9, "letter;") + "mirror 8;", 10);
        fault(TEN_LETTERS + "mirror 0;", TOO_MANY, 70);
        for (int at = 0; at < 64; at++) {
            HollowPunches one = Texts.of("letter;bar " + at % 8 + " " + at / 8 + " 1 1;turned 0;mirror 0;");
            check.same("square " + at + " turned", one.squares(1, 0), 1L << 63 - at);
            check.same("square " + at + " mirrored", one.squares(2, 0), 1L << (at ^ 7));
        }
    }

    private void drawings() {
        check.says(6, "\"bar\" X Y W H (squares from X, Y on, W across, H down, of the latest LETTER have INK),");
        check.same("one square", inkOf("bar 0 0 1 1;"), 1);
        check.same("the last square", inkOf("bar 7 7 1 1;"), 1L << 63);
        check.same("all", inkOf("bar 0 0 8 8;"), -1L);
        check.same("the last row", inkOf("bar 0 7 8 1;"), 0xFFL << 56);
        check.same("the last column", inkOf("bar 7 0 1 8;"), 0x8080808080808080L);
        check.same("across and down", inkOf("bar 1 2 3 2;"), Texts.squares("", "", ".###", ".###"));
        check.same("ink on ink", inkOf("bar 0 0 2 1;bar 1 0 2 1;"), 7);
        check.same("not the first letter", Texts.of("letter;letter;bar 0 0 8 8;").squares(0, 0), 0);
        check.says(6, "\"ring\" X Y W H (those of them at its rim),");
        check.same("one square", inkOf("ring 7 7 1 1;"), 1L << 63);
        check.same("two by two", inkOf("ring 0 0 2 2;"), 0x303);
        check.same("three by three", inkOf("ring 0 0 3 3;"), Texts.squares("###", "#.#", "###"));
        check.same("one row", inkOf("ring 0 7 8 1;"), 0xFFL << 56);
        check.same("one column", inkOf("ring 7 0 1 8;"), 0x8080808080808080L);
        check.same("two rows", inkOf("ring 0 0 8 2;"), 0xFFFF);
        check.same("two columns", inkOf("ring 0 0 2 8;"), 0x0303030303030303L);
        check.same("all of the grid", inkOf("ring 0 0 8 8;"), 0xFF818181818181FFL);
        check.same("what is inside stays", inkOf("bar 0 0 8 8;ring 0 0 8 8;"), -1L);
        check.same("no ink comes inside", inkOf("bar 3 3 1 1;ring 2 2 5 4;"),
                Texts.squares("", "", "..#####", "..##..#", "..#...#", "..#####"));
        check.says(6, "\"cut\" X Y W H (they have none any more),");
        check.same("of nothing", inkOf("cut 0 0 8 8;"), 0);
        check.same("of all", inkOf("bar 0 0 8 8;cut 0 0 8 8;"), 0);
        check.same("one square", inkOf("bar 0 0 8 8;cut 7 7 1 1;"), ~(1L << 63));
        check.same("the inside, too", inkOf("bar 0 0 8 8;cut 1 1 6 6;"), 0xFF818181818181FFL);
        check.same("ink again", inkOf("bar 0 0 8 8;cut 0 0 8 8;bar 0 0 1 1;"), 1);
        check.same("not of the letter it came from", Texts.of("letter;bar 0 0 8 8;turned 0;cut 0 0 8 8;")
                .squares(0, 0), -1L);
    }

    /** What is drawn on one letter. */
    private static long inkOf(String drawing) {
        return Texts.of("letter;" + drawing).squares(0, 0);
    }

    private void words() {
        check.says(27, "\"word\" D (1 to 8 digits, each a LETTER: WORDS likewise, 6 at most),");
        fault("letter;word ;", STRANGE, 12);
        right("letter;word 0;", 1);
        right("letter;word 00000000;", 1);
        fault("letter;word 000000000;", NO_SUCH_NUMBER, 12);
        right(TEN_LETTERS + "word 0123456;word 9;", 10);
        fault(Texts.times(9, "letter;") + "word 9;", NO_SUCH_NUMBER, 68);
        right("letter;" + Texts.times(6, "word 0;"), 1);
        fault("letter;" + Texts.times(7, "word 0;"), TOO_MANY, 49);
        HollowPunches x = Texts.of("letter;bar 0 0 1 1;letter;bar 0 0 8 8;word 1;word 0;word 00000001;spread 1 0;");
        check.same("three words", x.told(1), 3);
        check.same("word 0", x.colour(0, 1, 0), 8000);
        check.same("word 1", x.colour(1, 1, 0), 1000);
        check.same("all eight digits count", x.colour(2, 1, 0), 1000 * 71 / 15);
        HollowPunches y = Texts.of("letter;bar 0 0 1 1;letter;bar 0 0 8 8;word 0;word 0;word 0;word 0;word 0;word 1;"
                + "spread 1 0;");
        check.same("the sixth is number 5", y.colour(5, 1, 0), 8000);
        check.same("the fifth is number 4", y.colour(4, 1, 0), 1000);
    }

    private void spreads() {
        check.says(26, "or \"spread\" Z G (ink at SIZE Z, 1 to 9, G of 16: 0 to 16; 4 without).");
        fault("spread 0 0;", NO_SUCH_NUMBER, 7);
        fault("spread 10 0;", NO_SUCH_NUMBER, 7);
        fault("spread 1 17;", NO_SUCH_NUMBER, 9);
        right("spread 1 0;spread 9 16;", 0);
        String square = "letter;bar 3 3 1 1;";
        for (int size = 1; size <= 9; size++) {
            check.same("4 without", Texts.of(square).black(0, size), 16 + 4 * 4);
            for (int spread = 0; spread <= 16; spread++) {
                HollowPunches x = Texts.of(square + "spread " + size + " " + spread + ";");
                check.same("spread", x.black(0, size), 16 + 4 * spread);
                check.same("the next size", x.black(0, size % 9 + 1), 16 + 4 * 4);
            }
        }
        check.says(26, "Of spread of one SIZE the last counts.");
        HollowPunches x = Texts.of("spread 1 16;" + square + "spread 2 16;spread 2 1;spread 1 0;spread 2 3;");
        check.same("the last of three", x.black(0, 2), 16 + 4 * 3);
        check.same("the last of two, one ahead of the letter", x.black(0, 1), 16);
        check.same("without", x.black(0, 3), 16 + 4 * 4);
    }

    private void ranges() {
        check.says(3, "X, Y 0 to 7 (Y 0 above), W 1 to 8 less X, H 1 to 8 less Y; K told ahead.");
        for (String word : new String[] {"bar", "ring", "cut"}) {
            int first = "letter;".length() + word.length() + 1;
            for (int from = 0; from < 10; from++) {
                for (int many = 0; many < 10; many++) {
                    String across = "letter;" + word + " " + from + " 0 " + many + " 1;";
                    String down = "letter;" + word + " 0 " + from + " 1 " + many + ";";
                    if (from > 7) {
                        fault(across, NO_SUCH_NUMBER, first);
                        fault(down, NO_SUCH_NUMBER, first + 2);
                    } else if (many < 1 || many > 8 - from) {
                        fault(across, NO_SUCH_NUMBER, first + 4);
                        fault(down, NO_SUCH_NUMBER, first + 6);
                    } else {
                        right(across, 1);
                        right(down, 1);
                    }
                }
            }
        }
        check.same("Y 0 is above", inkOf("bar 0 0 8 1;"), 0xFF);
        fault("letter;bar 10 0 1 1;", NO_SUCH_NUMBER, 11);
        fault("letter;bar 0 0 10 1;", NO_SUCH_NUMBER, 15);
        for (String word : new String[] {"turned", "mirror"}) {
            fault(word + " 0;", NO_SUCH_NUMBER, 7);
            fault(word + " 0;letter;", NO_SUCH_NUMBER, 7);
            right("letter;" + word + " 0;" + word + " 1;", 3);
            fault("letter;" + word + " 1;", NO_SUCH_NUMBER, 14);
            fault("letter;letter;" + word + " 2;letter;", NO_SUCH_NUMBER, 21);
        }
    }

    private void numbers() {
        check.says(3, "Numbers: digits, as many as stand there;");
        right("letter;bar 007 00 0001 008;", 1);
        right("letter;turned 0000;", 2);
        right("spread 009 0016;", 0);
        fault("letter;bar 00 1 1;", STRANGE, 17);
        fault("letter;bar 0011;", NO_SUCH_NUMBER, 11);
        fault("letter;bar 0 0 18;", NO_SUCH_NUMBER, 15);
        fault("spread 19;", NO_SUCH_NUMBER, 7);
        // Numbers that would be 0 or 1 again in 32 or 64 bits
        for (String wrapped : new String[] {"4294967296", "4294967297", "18446744073709551616", "2147483648",
            "18446744073709551617", "99999999999999999999999999", "1" + "0".repeat(200)}) {
            fault("letter;bar " + wrapped + " 0 1 1;", NO_SUCH_NUMBER, 11);
            fault("letter;bar 0 0 " + wrapped + " 1;", NO_SUCH_NUMBER, 15);
            fault("letter;turned " + wrapped + ";", NO_SUCH_NUMBER, 14);
            fault("spread 1 " + wrapped + ";", NO_SUCH_NUMBER, 9);
        }
        right("letter;bar " + "0".repeat(400) + "7 0 1 1;", 1);
        fault("letter;bar " + "0".repeat(489), STRANGE, 500);
        fault("letter;word " + "0".repeat(488), NO_SUCH_NUMBER, 12);
        fault("letter;bar 0 0 1 -1;", STRANGE, 17);
        fault("letter;bar +0 0 1 1;", STRANGE, 11);
    }

    private void keywords() {
        check.says(3, "WORDS: small letters, as many as stand there;");
        for (String word : new String[] {"letter", "turned", "mirror", "bar", "ring", "cut", "word", "spread"}) {
            String rest = " 0 0 1 1;";
            fault("letter;" + word + "x" + rest, STRANGE, 7);
            fault("letter;x" + word + rest, STRANGE, 7);
            fault("letter;" + word + word + rest, STRANGE, 7);
            fault("letter;" + word.substring(1) + rest, STRANGE, 7);
            fault("letter;" + word.substring(0, word.length() - 1) + rest, STRANGE, 7);
            fault("letter;" + word.substring(0, 1) + " " + word.substring(1) + rest, STRANGE, 7);
            fault("letter;" + word.toUpperCase(java.util.Locale.ROOT) + rest, STRANGE, 7);
            for (int k = 0; k < word.length(); k++) {
                char other = word.charAt(k) == 'z' ? 'a' : (char) (word.charAt(k) + 1);
                fault("letter;" + word.substring(0, k) + other + word.substring(k + 1) + rest, STRANGE, 7);
            }
        }
        fault("letter;letterword 0;", STRANGE, 7);
        fault("lettEr;", STRANGE, 0);
        right("letter;bar0 0 1 1;ring0 0 1 1;cut0 0 1 1;turned0;mirror0;word012;spread1 1;", 3);
        fault("z".repeat(500), STRANGE, 0);
    }

    private void blanks() {
        check.says(3, "blanks (32) may stand ahead of all these, and at the end.");
        right("   ", 0);
        right("  letter  ;  bar  0  0  1  1  ;  turned  0  ;  word  01  ;  spread  1  1  ;  ", 2);
        right(" ".repeat(500), 0);
        fault("let ter;", STRANGE, 0);
        fault("letter;bar 0 0 1 0 1;", NO_SUCH_NUMBER, 17);
        fault("letter;word 0 0;", STRANGE, 14);
        for (int sign = 0; sign < 256; sign++) {
            String s = String.valueOf((char) sign);
            if (sign == ' ') {
                right(s + "letter;", 1);
                right("letter;" + s, 1);
                right("letter" + s + ";", 1);
                right("letter;bar 0" + s + "0 1 1;", 1);
                continue;
            }
            boolean small = sign >= 'a' && sign <= 'z';
            boolean digit = sign >= '0' && sign <= '9';
            fault(s + "letter;", STRANGE, 0);
            fault("letter;" + s, STRANGE, 7);
            fault("letter" + s + ";", STRANGE, small ? 0 : sign == ';' ? 7 : 6);
            if (digit && sign != '0') {
                fault("letter;bar 0" + s + "0 1 1;", NO_SUCH_NUMBER, 11);
            } else {
                fault("letter;bar 0" + s + "0 1 1;", STRANGE, digit ? 18 : 12);
            }
        }
    }

    private void firstFault() {
        check.says(4, "FAULTS, the first from the left, at its first byte:");
        fault("x;letter;bar 9 9 9 9;", STRANGE, 0);
        fault("letter;bar 8 9 0 0;", NO_SUCH_NUMBER, 11);
        fault("letter;bar 7 9 0 0;", NO_SUCH_NUMBER, 13);
        fault("letter;bar 7 7 0 0;", NO_SUCH_NUMBER, 15);
        fault("letter;bar 7 7 1 0;", NO_SUCH_NUMBER, 17);
        fault("letter;bar 8 x", NO_SUCH_NUMBER, 11);
        fault("letter;bar 0 x 9 9;", STRANGE, 13);
        fault("letter;bar 8", NO_SUCH_NUMBER, 11);
        fault("letter;word 1;letters;", NO_SUCH_NUMBER, 12);
        fault("letter;bar  0   12 1 1;", NO_SUCH_NUMBER, 16);
        fault("  strange;", STRANGE, 2);
        fault("spread 0 17;", NO_SUCH_NUMBER, 7);
    }

    private void earlyEnds() {
        check.says(4, "1 what can't stand there (at the length, if the text ends too early; bar, ring, cut ahead of "
                + "any LETTER);");
        String text = "letter ; bar 0 1 2 3 ;turned 0;  mirror 1;ring 1 1 7 7; cut 2 2 1 1;word 012; spread 9 16 ;  ";
        int letters = 0;
        for (int n = 0; n <= text.length(); n++) {
            String begun = text.substring(text.lastIndexOf(';', n - 1) + 1, n);
            String clause = begun.stripLeading();
            boolean ended = n > 0 && text.charAt(n - 1) == ';';
            if (ended && text.substring(0, n).matches("(.*; *)?(letter|turned|mirror)[ 0-9]*;")) {
                letters++;
            }
            if (clause.isEmpty()) {
                right(text.substring(0, n), letters);
            } else if (clause.matches("[a-z]+") && !clause.matches("letter|bar|turned|mirror|ring|cut|word|spread")) {
                fault(text.substring(0, n), STRANGE, n - clause.length());
            } else {
                fault(text.substring(0, n), STRANGE, n);
            }
        }
        check.same("letters of the whole", letters, 3);
    }

    private void strangeThings() {
        check.says(4, "1 what can't stand there (at the length, if the text ends too early; bar, ring, cut ahead of "
                + "any LETTER);");
        for (String word : new String[] {"bar", "ring", "cut"}) {
            fault(word + " 0 0 1 1;", STRANGE, 0);
            fault(word + " 9 9 9 9;", STRANGE, 0);
            fault(word, STRANGE, 0);
            fault("spread 1 1; " + word + " 0 0 1 1;letter;", STRANGE, 12);
        }
        fault("letter;;", STRANGE, 7);
        fault("letter letter;", STRANGE, 7);
        fault("letter 0;", STRANGE, 7);
        fault("0;", STRANGE, 0);
        fault("letter;bar;", STRANGE, 10);
        fault("letter;bar 0 0 1;", STRANGE, 16);
        fault("letter;bar 0 0 1 1 1;", STRANGE, 19);
        fault("letter;turned;", STRANGE, 13);
        fault("letter;turned 0 0;", STRANGE, 16);
        fault("letter;word;", STRANGE, 11);
        fault("letter;word a;", STRANGE, 12);
        fault("spread 1;", STRANGE, 8);
        fault("spread 1 1 1;", STRANGE, 11);
        fault("letter;turned 0mirror 0;", STRANGE, 15);
    }

    private void wrongNumbers() {
        check.says(4, "2 a number that is none such (D: a ninth digit, one that is no LETTER);");
        fault("letter;word  000000000;", NO_SUCH_NUMBER, 13);
        fault("letter;word 00000001;", NO_SUCH_NUMBER, 12);
        fault("letter;word 1;", NO_SUCH_NUMBER, 12);
        fault("word 0;", NO_SUCH_NUMBER, 5);
        fault("word 0;letter;", NO_SUCH_NUMBER, 5);
        fault("letter;word 000000001;", NO_SUCH_NUMBER, 12);
        fault("letter;word 01x;", NO_SUCH_NUMBER, 12);
        fault("letter;turned 1;", NO_SUCH_NUMBER, 14);
        fault("letter;mirror 9;", NO_SUCH_NUMBER, 14);
        right(TEN_LETTERS + "word 90;", 10);
    }

    private void tooMany() {
        check.says(4, "3 a CLAUSE, LETTER or WORD too many (at its word); of one the least.");
        fault(TEN_LETTERS + "  letter;", TOO_MANY, 72);
        fault(TEN_LETTERS + "turned 99;", TOO_MANY, 70);
        fault(TEN_LETTERS + "mirror;", TOO_MANY, 70);
        fault(TEN_LETTERS + "turned x", TOO_MANY, 70);
        fault("letter;" + Texts.times(6, "word 0;") + " word;", TOO_MANY, 50);
        fault("letter;" + Texts.times(6, "word 0;") + "word 9;", TOO_MANY, 49);
        fault(TEN_LETTERS + "letters;", STRANGE, 70);
        fault(TEN_LETTERS + ";", STRANGE, 70);
        right(TEN_LETTERS + "bar 0 0 1 1;word 9;spread 1 1;", 10);
        right("letter;" + Texts.times(6, "word 0;") + "letter;", 2);
        right(Texts.times(8, "letter;") + "turned 0;mirror 0;", 10);
        fault("letter;turned 0;mirror 1;" + Texts.times(7, "letter;") + "letter;", TOO_MANY, 74);
    }
}
