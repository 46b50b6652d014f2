/** Boundary cases of ink, words and prints: promises 26 to 33, and the terms' fourth part. */
final class ColourBoundaries extends Boundaries {
    private static final int MOST_ROOM = 9765624;
    /** One column at the rim: BLACK 128 and 8 G, BROAD 1. */
    private static final String COLUMN = "letter;bar 0 0 1 8;";

    ColourBoundaries(DocCheck check) {
        super(check);
    }

    @Override
    void run() {
        edges();
        black();
        broad();
        colours();
        rooms();
        colourAnswers();
        uneven();
        even();
        evenOfThree();
        evenOfSix();
        evenAnswers();
        press();
        pressAnswers();
        prints();
        printAnswers();
        kin();
        kinAnswers();
        partings();
        noPrints();
        partingAnswers();
    }

    private void edges() {
        check.says(26, "BLACK of a LETTER at a SIZE: 16 times its squares with INK, and G times its EDGE (those "
                + "without that have one with INK beside, by a side).");
        HollowPunches x = Texts.of("letter;" + FULL + "letter;bar 3 3 1 1;letter;bar 7 0 1 1;letter;bar 0 7 1 1;"
                + "letter;bar 1 1 1 1;bar 2 2 1 1;letter;ring 0 0 3 3;spread 1 0;spread 2 16;");
        int[] ink = {0, 64, 1, 1, 1, 2, 8};
        int[] edge = {0, 0, 4, 2, 2, 6, 7};
        for (int letter = 0; letter < 7; letter++) {
            check.same("edge of " + letter, x.letter(letter, 1), edge[letter]);
            check.same("spread 0", x.black(letter, 1), 16 * ink[letter]);
            check.same("spread 16", x.black(letter, 2), 16 * ink[letter] + 16 * edge[letter]);
            check.same("spread 4", x.black(letter, 3), 16 * ink[letter] + 4 * edge[letter]);
        }
    }

    private void black() {
        check.says(26, "BLACK.");
        HollowPunches x = Texts.of(FULL);
        check.same("all ink", x.black(0, 1), 1024);
        check.same("the last size", x.black(0, 9), 1024);
        for (int letter : new int[] {-1, 1, LOW, HIGH}) {
            check.noElement("letter " + letter, () -> x.black(letter, 1));
            check.noElement("letter " + letter + ", and size", () -> x.black(letter, 0));
        }
        check.says(26, "IllegalArgumentException: no such SIZE (so below).");
        HollowPunches none = new HollowPunches();
        HollowPunches words = Texts.of(FULL + "word 0;");
        for (int size : new int[] {-1, 0, 10, LOW, HIGH}) {
            check.illegal("black, size " + size, () -> x.black(0, size));
            check.illegal("colour, size " + size, () -> words.colour(0, size, 0));
            check.illegal("uneven, size " + size, () -> words.uneven(size, 0));
            check.illegal("even, size " + size, () -> words.even(size));
            check.illegal("uneven without words, size " + size, () -> none.uneven(size, 0));
            check.illegal("even without words, size " + size, () -> none.even(size));
        }
    }

    private void broad() {
        check.says(7, "BROAD: from its first to its last column with INK (0 without any).");
        check.same("no ink", Texts.of("letter;").letter(0, 2), 0);
        check.same("all ink", Texts.of(FULL).letter(0, 2), 8);
        for (int first = 0; first < 8; first++) {
            for (int last = first; last < 8; last++) {
                HollowPunches x = Texts.of("letter;bar " + first + " 0 1 1;bar " + last + " 7 1 1;");
                check.same("from " + first + " to " + last, x.letter(0, 2), last - first + 1);
            }
        }
    }

    private void colours() {
        check.says(27, "COLOUR of a WORD at a SIZE with ROOM r (digits to the base 5, LETTER 0 the lowest: 0 to 4 "
                + "for each): 1,000 times BLACK of all its LETTERS by 16 times (BROAD and ROOM of each, together) "
                + "(cut; 0, if that is 0).");
        HollowPunches x = Texts.of("letter;" + FULL + "letter;bar 3 0 1 8;letter;bar 0 0 3 1;word 0;word 00000000;"
                + "word 11111111;word 22222222;word 02;word 3;spread 2 16;spread 3 0;");
        check.same("no ink, no room: 0", x.colour(0, 1, 0), 0);
        check.same("no ink, all room", x.colour(0, 1, MOST_ROOM), 0);
        check.same("eight without ink", x.colour(1, 2, 0), 0);
        check.same("eight with all ink", x.colour(2, 1, 0), 8000);
        check.same("the blackest: 128 and 16 times 16 by 16", x.colour(3, 2, 0), 24000);
        check.same("a letter without ink adds none", x.colour(4, 3, 0), 8000);
        check.same("but its room does", x.colour(4, 3, 4), 1600);
        // 48 and 4 times 4 by 48: 1333.3; with 16: 112 by 48: 2333.3
        check.same("cut", x.colour(5, 1, 0), 1333);
        check.same("cut", x.colour(5, 2, 0), 2333);
        check.same("cut", x.colour(5, 3, 125), 750);
    }

    private void rooms() {
        check.says(27, "(digits to the base 5, LETTER 0 the lowest: 0 to 4 for each)");
        // Ten letters of one square each: 16 by 16 times (1 + its room)
        String ten = Texts.times(10, "letter;bar 0 0 1 1;") + "spread 1 0;";
        int[] by = {1000, 500, 333, 250, 200};
        int power = 1;
        for (int letter = 0; letter < 10; letter++) {
            HollowPunches x = Texts.of(ten + "word " + letter + ";");
            for (int digit = 0; digit < 5; digit++) {
                check.same("room of " + letter, x.colour(0, 1, digit * power), by[digit]);
                check.same("with all others", x.colour(0, 1, MOST_ROOM - (4 - digit) * power), by[digit]);
            }
            power *= 5;
        }
        HollowPunches twice = Texts.of(ten + "word 011;word 99999999;");
        check.same("each time that it comes", twice.colour(0, 1, 2 + 3 * 5), 1000 * 3 / (3 + 2 + 3 + 3));
        check.same("eight times", twice.colour(1, 1, 4 * 1953125), 200);
    }

    private void colourAnswers() {
        HollowPunches x = Texts.of(FULL + "word 0;word 0;");
        check.says(27, "COLOUR of a WORD.");
        check.same("the last word", x.colour(1, 9, 0), 8000);
        check.says(27, "IndexOutOfBoundsException: no such WORD.");
        for (int word : new int[] {-1, 2, 6, LOW, HIGH}) {
            check.noIndex("word " + word, () -> x.colour(word, 1, 0));
            check.noIndex("word " + word + ", and all", () -> x.colour(word, 0, -1));
        }
        check.says(27, "IllegalArgumentException: SIZE, ROOM (0 to 9,765,624).");
        check.same("the greatest room", x.colour(0, 1, MOST_ROOM), 1000 * 1024 / (16 * 12));
        for (int size : new int[] {-1, 0, 10, LOW, HIGH}) {
            check.illegal("size " + size, () -> x.colour(0, size, 0));
        }
        for (int room : new int[] {-1, 9765625, LOW, HIGH}) {
            check.illegal("room " + room, () -> x.colour(0, 1, room));
        }
    }

    private void uneven() {
        check.says(28, "UNEVEN: the greatest COLOUR of all WORDS less the least.");
        HollowPunches one = Texts.of(FULL + "word 0;");
        check.same("one word", one.uneven(1, 0), 0);
        HollowPunches x = Texts.of(FULL + "letter;" + COLUMN
                + "word 0;word 2;word 1;word 02;word 2;word 0;spread 2 0;");
        check.same("8000, 10000, 0, 8222", x.uneven(1, 0), 10000);
        check.same("8000, 8000, 0, 8000", x.uneven(2, 0), 8000);
        HollowPunches y = Texts.of(FULL + COLUMN + "word 0;word 1;word 1;spread 2 0;");
        check.same("the first is the least", y.uneven(1, 0), 2000);
        check.same("the first is the greatest", y.uneven(1, 20), 8000 - 2000);
        check.same("all alike", y.uneven(2, 0), 0);
        check.same("all 0", Texts.of("letter;word 0;word 00;").uneven(1, 0), 0);
        check.says(28, "UNEVEN (0 without WORDS).");
        check.same("without words", Texts.of(FULL).uneven(1, 0), 0);
        check.same("without letters", new HollowPunches().uneven(9, MOST_ROOM), 0);
        check.same("the greatest room", one.uneven(1, MOST_ROOM), 0);
        for (int room : new int[] {-1, 9765625, LOW, HIGH}) {
            check.illegal("room " + room, () -> one.uneven(1, room));
            check.illegal("without words, room " + room, () -> new HollowPunches().uneven(1, room));
        }
    }

    private void even() {
        check.says(29, "EVEN: the ROOM of LETTERS that come in WORDS (others 0) with the least UNEVEN at a SIZE, of "
                + "these the least as a number;");
        HollowPunches alike = Texts.of(FULL + FULL + "word 0;word 1;");
        check.same("of many that are even the least", alike.even(1), 0);
        HollowPunches one = Texts.of(FULL + COLUMN + "word 01;");
        check.same("one word is always even", one.even(1), 0);
        // Columns of one and two, spread 4: 10000, 5000, 3333, 2500, 2000 and 9000, 6000, 4500, 3600, 3000
        String two = COLUMN + "letter;bar 0 0 2 8;";
        HollowPunches x = Texts.of(two + "word 0;word 1;spread 1 0;");
        check.same("3333 and 3600", x.even(2), 2 + 5 * 3);
        check.same("so uneven", x.uneven(2, 17), 267);
        check.same("with spread 0 even by itself", x.even(1), 0);
        check.same("asked again", x.even(2), 17);
        HollowPunches high = Texts.of(Texts.times(8, "letter;") + two + "word 8;word 9;");
        check.same("of letters 8 and 9, others 0", high.even(1), 2 * 390625 + 3 * 1953125);
        // With all ink and a column: 8000 to 5333, and 10000: the least of the rooms that make 8000 and 10000 is none
        HollowPunches far = Texts.of(FULL + COLUMN + "word 0;word 1;");
        check.same("8000, 7111, 6400, 5818, 5333 and 5000: room 4 and 1", far.even(1), 4 + 5);
        check.same("so uneven", far.uneven(1, 9), 333);
        for (int spread = 0; spread <= 16; spread++) {
            HollowPunches y = Texts.of(two + "word 0;word 1;spread 5 " + spread + ";");
            int best = 0;
            for (int room = 1; room < 25; room++) {
                best = y.uneven(5, room) < y.uneven(5, best) ? room : best;
            }
            check.same("with spread " + spread, y.even(5), best);
        }
    }

    /** Of three LETTERS all 125 rooms are tried. */
    private void evenOfThree() {
        check.says(29, "with the least UNEVEN at a SIZE, of these the least as a number;");
        String[] words = {"word 0;word 1;word 2;", "word 012;word 2;word 110;", "word 00000001;word 12;word 2;word 1;",
            "word 01;word 02;word 12;"};
        for (int kind = 0; kind < 60; kind++) {
            String first = "letter;bar 0 0 " + (1 + kind % 5) + " 8;";
            String second = "letter;bar 1 1 " + (1 + kind / 5 % 4) + " " + (1 + kind / 20 * 3) + ";";
            String third = "letter;ring 2 2 " + (1 + kind % 6) + " " + (1 + kind % 4) + ";";
            HollowPunches x = Texts.of(first + second + third + words[kind % 4]);
            int best = 0;
            for (int room = 1; room < 125; room++) {
                best = x.uneven(1, room) < x.uneven(1, best) ? room : best;
            }
            check.same("even of kind " + kind, x.even(1), best);
        }
    }

    private void evenOfSix() {
        check.says(29, "for 6 such LETTERS at most, else NONE.");
        // Letters 4 to 8 are columns of one, letter 9 is of two: 3333 each, and 3600
        String ten = "letter;letter;letter;letter;" + Texts.times(5, COLUMN) + "letter;bar 0 0 2 8;";
        HollowPunches six = Texts.of(ten + "word 4;word 5;word 6;word 7;word 8;word 9;");
        int due = 2 * (625 + 3125 + 15625 + 78125 + 390625) + 3 * 1953125;
        check.same("six", six.even(1), due);
        check.same("six", six.uneven(1, due), 267);
        HollowPunches often = Texts.of(ten + "word 456789;word 99999999;word 4;");
        check.same("six, some often", often.even(1) == NONE, false);
        HollowPunches seven = Texts.of(ten + "word 456789;word 3;");
        check.same("seven", seven.even(1), NONE);
        HollowPunches all = Texts.of(ten + "word 01234567;word 89;");
        check.same("ten", all.even(9), NONE);
        HollowPunches one = Texts.of(ten + "word 3456789;");
        check.same("seven in one word", one.even(1), NONE);
        check.illegal("seven, and size", () -> seven.even(0));
    }

    private void evenAnswers() {
        check.says(29, "EVEN (0 without WORDS).");
        check.same("without words", Texts.of(FULL).even(1), 0);
        check.same("without letters", new HollowPunches().even(9), 0);
        check.same("ten letters, no words", Texts.of(Texts.times(10, "letter;")).even(1), 0);
    }

    private void press() {
        check.says(30, "PRESS: of spreads 0 to 16 the one by which the mean COLOUR of all WORDS (cut), ROOM 0, is "
                + "nearest to a told one, of these the least.");
        // A column: 8000 and 500 G
        HollowPunches x = Texts.of(COLUMN + "word 0;spread 1 9;");
        check.same("below all", x.press(0), 0);
        check.same("as near to 8000 as to 8500", x.press(8250), 0);
        check.same("nearer to 8500", x.press(8251), 1);
        check.same("as near to 15500 as to 16000", x.press(15750), 15);
        check.same("nearer to 16000", x.press(15751), 16);
        check.same("16000", x.press(16000), 16);
        check.same("above all", x.press(99999), 16);
        for (int spread = 0; spread <= 16; spread++) {
            check.same("just", x.press(8000 + 500 * spread), spread);
        }
        check.same("all alike: the least", Texts.of(FULL + "word 0;").press(99999), 0);
        check.same("no ink: the least", Texts.of("letter;word 0;").press(5), 0);
        // 4000 and 250 G, 3000 and 187.5 G (cut): means of 3718 and 3937 with 1 and 2
        HollowPunches two = Texts.of("letter;ring 0 0 4 4;" + COLUMN + "word 01;word 0;");
        check.same("109 from 3718, 110 from 3937", two.press(3827), 1);
        check.same("110 from 3718, 109 from 3937", two.press(3828), 2);
    }

    private void pressAnswers() {
        check.says(30, "PRESS; NONE without WORDS.");
        HollowPunches none = Texts.of(FULL);
        check.same("without words", none.press(0), NONE);
        check.same("without letters", new HollowPunches().press(99999), NONE);
        check.says(30, "IllegalArgumentException: the told one (0 to 99,999).");
        HollowPunches x = Texts.of(FULL + "word 0;");
        check.same("0", x.press(0), 0);
        check.same("99999", x.press(99999), 0);
        for (int colour : new int[] {-1, 100000, LOW, HIGH}) {
            check.illegal("press(" + colour + ")", () -> x.press(colour));
            check.illegal("without words, press(" + colour + ")", () -> none.press(colour));
        }
    }

    private void prints() {
        check.says(31, "PRINTS, 8 at most: squares (bits; one at least).");
        HollowPunches x = new HollowPunches();
        long[] squares = {1, 1L << 63, -1L, Long.MAX_VALUE, Long.MIN_VALUE + 1, 3, 3, 7};
        for (int n = 0; n < 8; n++) {
            check.same("print", x.print(squares[n]), n + 1);
        }
        check.same("a ninth", x.print(9), -1);
        check.same("eight", x.count(1), 8);
        check.same("a single square is another's kin, the last bit, too", x.kin(0, 1, 0, false), true);
        check.same("the eighth is the one that was told", x.kin(7, 5, 0, false), false);
        check.same("the eighth", x.kin(7, 5, 1, false), true);
    }

    private void printAnswers() {
        check.says(31, "A PRINT: how many there are; -1: there are 8.");
        HollowPunches x = new HollowPunches();
        for (int n = 1; n <= 8; n++) {
            check.same("how many", x.print(1), n);
        }
        check.same("there are 8", x.print(1), -1);
        check.same("there are 8", x.print(-1L), -1);
        check.same("all are as they were", x.partings(0, false, 0), 4140);
        check.says(31, "IllegalArgumentException: squares 0.");
        check.illegal("none of 8", () -> x.print(0));
        HollowPunches y = new HollowPunches();
        check.illegal("none of none", () -> y.print(0));
        check.same("no print came", y.count(1), 0);
    }

    private void kin() {
        check.says(32, "KIN are two APART by w or less (with mirrors or not, either way).");
        HollowPunches x = new HollowPunches();
        x.print(1);
        x.print(-1L);
        x.print(Texts.squares("#", "#", "##"));
        x.print(Texts.squares("......#", "......#", ".....##"));
        x.print(7);
        check.same("itself", x.kin(1, 1, 0, false), true);
        check.same("63 apart, within 62", x.kin(0, 1, 62, true), false);
        check.same("63 apart, within 63", x.kin(0, 1, 63, false), true);
        check.same("within 64", x.kin(1, 0, 64, false), true);
        check.same("an L and its mirror, within 1", x.kin(2, 3, 1, false), false);
        check.same("an L and its mirror, within 2", x.kin(2, 3, 2, false), true);
        check.same("an L and its mirror, with mirrors", x.kin(2, 3, 0, true), true);
        check.same("three in a row and one, within 1", x.kin(0, 4, 1, false), false);
        check.same("three in a row and one, within 2", x.kin(0, 4, 2, false), true);
        // Two squares by their corners: as first, turned, it covers the single one; as second it can't be moved
        HollowPunches y = new HollowPunches();
        y.print(Texts.squares("#"));
        y.print(Texts.squares(".#", "#"));
        check.same("neither way by 0", y.kin(0, 1, 0, true), false);
        check.same("one way by 3, the other way by 1", y.kin(0, 1, 1, false), true);
        check.same("and asked the other way", y.kin(1, 0, 1, false), true);
    }

    private void kinAnswers() {
        check.says(32, "Whether two PRINTS are KIN.");
        HollowPunches x = new HollowPunches();
        check.noIndex("no prints", () -> x.kin(0, 0, 0, false));
        x.print(1);
        x.print(3);
        check.same("not within 0", x.kin(0, 1, 0, false), false);
        check.same("within 1", x.kin(0, 1, 1, false), true);
        check.says(32, "IndexOutOfBoundsException: no such PRINT.");
        for (int print : new int[] {-1, 2, 8, LOW, HIGH}) {
            check.noIndex("print " + print, () -> x.kin(print, 0, 0, false));
            check.noIndex("other " + print, () -> x.kin(0, print, 0, true));
            check.noIndex("print " + print + ", and w", () -> x.kin(print, 0, 65, true));
            check.noIndex("other " + print + ", and w", () -> x.kin(0, print, -1, true));
        }
        check.says(32, "IllegalArgumentException: w (0 to 64; so below).");
        check.same("w 64", x.kin(0, 1, 64, true), true);
        for (int w : new int[] {-1, 65, LOW, HIGH}) {
            check.illegal("w " + w, () -> x.kin(0, 0, w, false));
            check.illegal("partings, w " + w, () -> x.partings(w, false, 0));
        }
    }

    private void partings() {
        check.says(33, "A PARTING: all PRINTS in groups, in each of which all are KIN of each other: how many there "
                + "are; the fewest groups; PRINTS that are alone in each PARTING (bits).");
        HollowPunches eight = printed(1, 2, 4, 8, 16, 32, 64, 128);
        check.same("eight alike", eight.partings(0, false, 0), 4140);
        check.same("one group", eight.partings(0, false, 1), 1);
        check.same("none is always alone", eight.partings(0, false, 2), 0);
        HollowPunches apart = printed(1, 7, 31, 127, 0xFF03, 0xFF0F, 0xFF3F, 0xFFFF);
        check.same("eight apart", apart.partings(0, false, 0), 1);
        check.same("eight groups", apart.partings(0, false, 1), 8);
        check.same("all are alone", apart.partings(0, false, 2), 255);
        check.same("within 64: all together or not", apart.partings(64, false, 0), 4140);
        // 1, 2 and 3 in a row, and a great one: 1 and 3 are no kin of each other within 1
        HollowPunches row = printed(1, 3, 7, -1L);
        check.same("none, the first two, the last two", row.partings(1, false, 0), 3);
        check.same("three groups", row.partings(1, false, 1), 3);
        check.same("the great one is alone", row.partings(1, false, 2), 8);
        HollowPunches last = printed(7, 7, 7, 7, 7, 7, 7, 1);
        check.same("seven alike", last.partings(0, false, 0), 877);
        check.same("the eighth is alone", last.partings(0, false, 2), 128);
        HollowPunches groups = printed(1, 3, 7, -1L);
        check.same("the fewest groups asked first, within 1", groups.partings(1, false, 1), 3);
        check.same("within 0", groups.partings(0, false, 1), 4);
        check.same("within 2", groups.partings(2, false, 1), 2);
        check.same("within 64", groups.partings(64, false, 1), 1);
        HollowPunches one = printed(5);
        check.same("one print", one.partings(0, false, 0), 1);
        check.same("one group", one.partings(64, true, 1), 1);
        check.same("alone", one.partings(64, true, 2), 1);
        HollowPunches mirrors = printed(Texts.squares("#", "#", "##"), Texts.squares(".#", ".#", "##"));
        check.same("without mirrors", mirrors.partings(0, false, 0), 1);
        check.same("with mirrors", mirrors.partings(0, true, 0), 2);
    }

    private static HollowPunches printed(long... squares) {
        HollowPunches x = new HollowPunches();
        for (long s : squares) {
            x.print(s);
        }
        return x;
    }

    private void noPrints() {
        check.says(33, "Without PRINTS there is one PARTING, of no groups.");
        HollowPunches x = new HollowPunches();
        check.same("one parting", x.partings(0, false, 0), 1);
        check.same("of no groups", x.partings(64, true, 1), 0);
        check.same("none alone", x.partings(0, true, 2), 0);
        HollowPunches y = Texts.of(FULL);
        y.image();
        y.print(1);
        y.restore();
        check.same("prints gone again: one parting", y.partings(0, false, 0), 1);
        check.same("of no groups", y.partings(0, false, 1), 0);
    }

    private void partingAnswers() {
        check.says(33, "PARTINGS: 0 how many, 1 the fewest groups, 2 the bits of those always alone.");
        HollowPunches x = printed(1, 2, 7);
        int[] due = {2, 2, 4};
        for (int what = 0; what < 3; what++) {
            check.same("what " + what, x.partings(0, false, what), due[what]);
        }
        for (int what : new int[] {-1, 3, LOW, HIGH}) {
            check.illegal("what " + what, () -> x.partings(0, false, what));
            check.illegal("without prints, what " + what, () -> new HollowPunches().partings(0, true, what));
        }
        for (int w : new int[] {-1, 65, LOW, HIGH}) {
            check.illegal("without prints, w " + w, () -> new HollowPunches().partings(w, true, 0));
        }
    }
}
