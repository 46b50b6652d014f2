/** Boundary cases of squares, hollows, counterpunches and bites: promises 6 to 14, and the terms' second part. */
final class ShapeBoundaries extends Boundaries {
    /** An L of four squares in its four quarter turns: hollows 0 to 3. */
    private static final String TURNED_L = FULL + "cut 1 1 1 3;cut 2 3 1 1;cut 4 1 3 1;cut 4 2 1 1;"
            + "cut 5 4 2 1;cut 6 5 1 2;cut 3 5 1 1;cut 1 6 3 1;";
    /** Rows of 2, 3, 1 and 4 squares: hollows 0 to 3. */
    private static final String ROWS = FULL + "cut 1 1 2 1;cut 4 1 3 1;cut 1 3 1 1;cut 3 3 4 1;";

    ShapeBoundaries(DocCheck check) {
        super(check);
    }

    @Override
    void run() {
        bits();
        squares();
        reached();
        hidden();
        letters();
        hangTogether();
        numbered();
        sixteen();
        hollows();
        shapes();
        apart();
        noSuchHollow();
        serves();
        leastSets();
        punches();
        served();
        upToInk();
        asOne();
        lineBits();
        fewest();
        proof();
        bites();
    }

    private void bits() {
        check.says(6, "SQUARES are bits: 8 times Y, and X.");
        for (int at = 0; at < 64; at++) {
            HollowPunches x = Texts.of("letter;bar " + at % 8 + " " + at / 8 + " 1 1;");
            check.same("square " + at, x.squares(0, 0), 1L << at);
        }
    }

    private void squares() {
        check.says(6, "Squares of a LETTER: with INK (what 0), REACHED (1), HIDDEN (2).");
        HollowPunches x = Texts.of(O + FULL + "letter;");
        for (int letter = 0; letter < 3; letter++) {
            long ink = x.squares(letter, 0);
            long reached = x.squares(letter, 1);
            long hidden = x.squares(letter, 2);
            check.same("each square is one of these", ink | reached | hidden, -1L);
            check.same("and only one", Long.bitCount(ink) + Long.bitCount(reached) + Long.bitCount(hidden), 64);
        }
        check.same("hidden", x.squares(0, 2), 0x060600);
        for (int what : new int[] {-1, 3, LOW, HIGH}) {
            check.illegal("what " + what, () -> x.squares(0, what));
        }
        check.says(6, "NoSuchElementException: no such LETTER (so below).");
        for (int letter : new int[] {-1, 3, 10, LOW, HIGH}) {
            check.noElement("letter " + letter, () -> x.squares(letter, 0));
            check.noElement("letter " + letter + ", and what", () -> x.squares(letter, 3));
        }
    }

    private void reached() {
        check.says(6, "REACHED by a file is a square without INK, if on its row, or column, all squares from it to "
                + "the rim, on some side, have none.");
        // From x 3, y 3 a way leads to one side only
        String[] ways = {"cut 0 3 4 1;", "cut 3 3 5 1;", "cut 3 0 1 4;", "cut 3 3 1 5;"};
        String[] stops = {"bar 1 3 1 1;", "bar 6 3 1 1;", "bar 3 1 1 1;", "bar 3 6 1 1;"};
        String[] rims = {"bar 0 3 1 1;", "bar 7 3 1 1;", "bar 3 0 1 1;", "bar 3 7 1 1;"};
        long at = 1L << 27;
        for (int side = 0; side < 4; side++) {
            HollowPunches open = Texts.of(FULL + ways[side]);
            check.same("a way to side " + side, open.squares(0, 1), ~open.squares(0, 0));
            check.same("none is hidden", open.squares(0, 2), 0);
            HollowPunches shut = Texts.of(FULL + ways[side] + stops[side]);
            check.same("ink on the way to side " + side, shut.squares(0, 2) & at, at);
            check.same("the rim's square is reached", Long.bitCount(shut.squares(0, 1)), 1);
            HollowPunches rim = Texts.of(FULL + ways[side] + rims[side]);
            check.same("ink at the rim of side " + side, rim.squares(0, 1), 0);
            check.same("all behind it is hidden", rim.squares(0, 2), ~rim.squares(0, 0));
        }
        HollowPunches bent = Texts.of(FULL + "cut 3 0 1 4;cut 4 3 1 1;");
        check.same("no file goes round a corner", bent.squares(0, 2), 1L << 28);
        HollowPunches none = Texts.of("letter;");
        check.same("without ink all is reached", none.squares(0, 1), -1L);
        check.same("with all ink nothing is", Texts.of(FULL).squares(0, 1), 0);
        HollowPunches corners = Texts.of(FULL + "cut 0 0 1 1;cut 7 0 1 1;cut 0 7 1 1;cut 7 7 1 1;");
        check.same("the rim is always reached", corners.squares(0, 1), 0x8100000000000081L);
        HollowPunches edge = Texts.of(FULL + "cut 7 2 1 1;cut 0 3 1 1;cut 1 3 1 1;cut 1 4 1 1;");
        check.same("no way from one row's end to the next", edge.squares(0, 2), 1L << 33);
    }

    private void hidden() {
        check.says(6, "HIDDEN are the others without INK.");
        check.same("none without ink", Texts.of("letter;").squares(0, 2), 0);
        check.same("none with all ink", Texts.of(FULL).squares(0, 2), 0);
        check.same("the most that may be", Texts.of("letter;ring 0 0 8 8;").squares(0, 2), 0x007E7E7E7E7E7E00L);
        check.same("a hole in the rim", Texts.of("letter;ring 0 0 8 8;cut 0 1 1 1;").squares(0, 2),
                0x007E7E7E7E7E0000L);
    }

    private void letters() {
        check.says(7, "Of a LETTER: 0 how many have INK, 1 EDGE, 2 BROAD, 3 its first HOLLOW (NONE), 4 how many it "
                + "has.");
        HollowPunches x = Texts.of("letter;" + FULL + O + EIGHTEEN);
        int[][] due = {{0, 0, 0, NONE, 0}, {64, 0, 8, NONE, 0}, {12, 12, 4, 0, 1}, {46, 18, 8, 1, 15}};
        for (int letter = 0; letter < 4; letter++) {
            for (int what = 0; what < 5; what++) {
                check.same("letter(" + letter + ", " + what + ")", x.letter(letter, what), due[letter][what]);
            }
        }
        for (int what : new int[] {-1, 5, LOW, HIGH}) {
            check.illegal("what " + what, () -> x.letter(0, what));
        }
        for (int letter : new int[] {-1, 4, LOW, HIGH}) {
            check.noElement("letter " + letter, () -> x.letter(letter, 0));
            check.noElement("letter " + letter + ", and what", () -> x.letter(letter, 5));
        }
    }

    private void hangTogether() {
        check.says(8, "HOLLOWS of a LETTER: HIDDEN squares that hang together by sides;");
        check.same("none", Texts.of("letter;" + FULL).told(2), 0);
        HollowPunches corner = Texts.of(FULL + "cut 1 1 1 1;cut 2 2 1 1;cut 3 1 1 1;");
        check.same("corners do not hang together", corner.told(2), 3);
        HollowPunches round = Texts.of("letter;ring 0 0 8 8;bar 2 2 4 4;");
        check.same("round a block it is one", round.told(2), 1);
        check.same("all round", round.hollow(0), 0x007E424242427E00L);
        // A snake of hidden squares: three rows, joined at one end each
        HollowPunches snake = Texts.of(FULL + "cut 1 1 6 1;cut 6 2 1 1;cut 1 3 6 1;cut 1 4 1 1;cut 1 5 6 1;");
        check.same("a snake is one", snake.told(2), 1);
        check.same("a snake of 20 squares", Long.bitCount(snake.hollow(0)), 20);
        HollowPunches slot = Texts.of("letter;ring 0 0 7 7;cut 3 6 1 1;");
        check.same("what is reached parts two hollows", slot.told(2), 2);
        HollowPunches comb = Texts.of("letter;ring 0 0 8 8;bar 1 1 1 5;bar 3 1 1 5;bar 5 1 1 5;");
        check.same("a comb hangs together by its last row", comb.told(2), 1);
        check.same("all of it", comb.hollow(0), comb.squares(0, 2));
    }

    private void numbered() {
        check.says(8, "numbered LETTER by LETTER, in a LETTER by their first square;");
        // The hollow that begins lower reaches further left
        HollowPunches x = Texts.of(FULL + "cut 5 1 1 3;cut 1 2 3 2;" + FULL + "cut 1 1 1 1;letter;" + O);
        check.same("the first square counts", x.hollow(0), 0x0020202000L);
        check.same("then the next", x.hollow(1), 0x0E0E0000L);
        check.same("of the next letter, though its square is less", x.hollow(2), 1L << 9);
        check.same("a letter without is passed over", x.hollow(3), 0x060600);
        check.same("first of letter 1", x.letter(1, 3), 2);
        check.same("first of letter 2", x.letter(2, 3), NONE);
        check.same("first of letter 3", x.letter(3, 3), 3);
    }

    private void sixteen() {
        check.says(8, "16 of all count, others are none.");
        HollowPunches one = Texts.of(EIGHTEEN + O);
        check.same("16 of 19", one.told(2), 16);
        check.same("16 of 18 in a letter", one.letter(0, 4), 16);
        check.same("none of the next letter", one.letter(1, 4), 0);
        check.same("none of the next letter", one.letter(1, 3), NONE);
        check.same("the 16th by its square", one.hollow(15), 1L << 50);
        check.noIndex("no 17th", () -> one.hollow(16));
        check.same("others are hidden still", one.squares(1, 2), 0x060600);
        check.same("hidden are all", Long.bitCount(one.squares(0, 2)), 18);
        HollowPunches two = Texts.of(NINE + "turned 0;cut 6 6 1 1;mirror 0;");
        check.same("16 of 27", two.told(2), 16);
        check.same("7 of the second", two.letter(1, 4), 7);
        HollowPunches just = Texts.of(EIGHTEEN + "bar 4 6 3 1;");
        check.same("just 16", just.told(2), 16);
        HollowPunches fewer = Texts.of(EIGHTEEN + "bar 2 6 5 1;");
        check.same("15", fewer.told(2), 15);
    }

    private void hollows() {
        check.says(8, "Squares of a HOLLOW.");
        HollowPunches x = Texts.of("letter;ring 0 0 8 8;" + FULL + "cut 6 6 1 1;");
        check.same("the greatest", x.hollow(0), 0x007E7E7E7E7E7E00L);
        check.same("the least", x.hollow(1), 1L << 54);
        check.says(8, "IndexOutOfBoundsException: no such HOLLOW (so below).");
        for (int hollow : new int[] {-1, 2, 16, LOW, HIGH}) {
            check.noIndex("hollow(" + hollow + ")", () -> x.hollow(hollow));
        }
        check.noIndex("no hollows", () -> Texts.of("letter;").hollow(0));
    }

    private void shapes() {
        check.says(9, "The SHAPE of squares (0: 0).");
        HollowPunches x = new HollowPunches();
        check.same("none", x.shape(0), 0);
        check.same("all", x.shape(-1L), -1L);
        check.says(9, "SHAPE of some squares: moved so that the least X and the least Y are 0.");
        for (int at = 0; at < 64; at++) {
            check.same("square " + at, x.shape(1L << at), 1);
        }
        check.same("the last column", x.shape(0x8080808080808080L), 0x0101010101010101L);
        check.same("the last row", x.shape(0xFFL << 56), 0xFF);
        check.same("least X and least Y of two squares", x.shape(1L << 14 | 1L << 19), 1L << 3 | 1L << 8);
        check.same("nothing is lost", x.shape(1L << 7 | 1L << 56), 1L << 7 | 1L << 56);
        check.same("all but the first", x.shape(-2L), -2L);
        check.same("all but the first row and column", x.shape(0xFEFEFEFEFEFEFE00L), 0x007F7F7F7F7F7F7FL);
        HollowPunches y = new HollowPunches();
        for (int right = 0; right < 7; right++) {
            for (int down = 0; down < 6; down++) {
                check.same("moved", y.shape(Texts.squares(".#", "##", "#.") << 8 * down + right), 0x010302);
            }
        }
    }

    private void apart() {
        check.says(10, "How far two HOLLOWS are APART.");
        HollowPunches big = Texts.of("letter;ring 0 0 8 8;" + FULL + "cut 3 3 1 1;");
        check.same("itself", big.apart(0, 0, false), 0);
        check.same("the greatest from the least", big.apart(0, 1, false), 35);
        check.same("the least from the greatest", big.apart(1, 0, true), 35);
        check.says(10, "APART are two: of all quarter turns of the first one (with mirrors: of those of its mirror "
                + "image, too) as SHAPES, that by which fewest squares are of one SHAPE alone: how many these are.");
        HollowPunches x = Texts.of(TURNED_L + "mirror 0;");
        check.same("eight of them", x.told(2), 8);
        for (int h = 0; h < 8; h++) {
            for (int other = 0; other < 8; other++) {
                boolean turned = h < 4 == other < 4;
                check.same("L " + h + " and " + other, x.apart(h, other, false), turned ? 0 : 2);
                check.same("with mirrors", x.apart(h, other, true), 0);
            }
        }
        // Only turned ones of the first are tried: the L may lie with its corner at 0, 0, the one square may not move
        HollowPunches y = Texts.of(FULL + "cut 2 1 1 2;cut 1 2 1 1;cut 5 5 1 1;");
        check.same("the L is turned", y.apart(0, 1, false), 2);
        check.same("the single square is turned", y.apart(1, 0, false), 4);
        check.same("the single square, with mirrors", y.apart(1, 0, true), 4);
        // A row of 4 and a column of 4, a row of 3: 0 and 1
        HollowPunches z = Texts.of(FULL + "cut 1 1 4 1;cut 6 1 1 4;cut 1 3 3 1;");
        check.same("a row and a column", z.apart(0, 1, false), 0);
        check.same("a column and a row", z.apart(1, 2, false), 1);
    }

    private void noSuchHollow() {
        check.says(10, "IndexOutOfBoundsException: no such HOLLOW (so below).");
        HollowPunches x = Texts.of(O);
        for (int hollow : new int[] {-1, 1, 16, LOW, HIGH}) {
            check.noIndex("apart, first", () -> x.apart(hollow, 0, true));
            check.noIndex("apart, second", () -> x.apart(0, hollow, false));
            check.noIndex("served", () -> x.served(hollow, 0, true));
            check.noIndex("served, and t", () -> x.served(hollow, 65, false));
            check.noIndex("blow", () -> x.blow(hollow));
            check.noIndex("addBlow", () -> x.addBlow(hollow));
        }
        check.same("the only one", x.apart(0, 0, false), 0);
    }

    private void serves() {
        check.says(11, "A HOLLOW SERVES another one within t, if they are APART by t or less.");
        // Of the L of 3 and the single square: apart by 2 and by 4
        HollowPunches x = Texts.of(FULL + "cut 2 1 1 2;cut 1 2 1 1;cut 5 5 1 1;");
        check.same("within 1 none serves", x.punches(1, false, 1), 3);
        check.same("within 2 the L serves", x.punches(2, false, 1), 1);
        HollowPunches y = Texts.of(FULL + "cut 1 1 1 1;cut 5 5 1 1;cut 4 5 1 1;cut 5 4 1 1;");
        check.same("the first is the single square", Long.bitCount(y.hollow(0)), 1);
        check.same("within 1 none serves", y.punches(1, false, 1), 3);
        check.same("within 2 and 3 only the L serves both", y.punches(2, false, 1), 2);
        check.same("within 3", y.punches(3, false, 1), 2);
        check.same("within 4 the single square does", y.punches(4, false, 1), 1);
        HollowPunches big = Texts.of("letter;ring 0 0 8 8;" + FULL + "cut 3 3 1 1;");
        check.same("within 34", big.punches(34, true, 0), 2);
        check.same("within 35", big.punches(35, true, 0), 1);
    }

    private void leastSets() {
        check.says(11, "COUNTERPUNCHES: the fewest HOLLOWS so that each is SERVED by one of these (itself, too); of "
                + "these sets the least (bits).");
        HollowPunches x = Texts.of(ROWS);
        check.same("within 0 each serves itself", x.punches(0, false, 1), 15);
        check.same("within 1: 2 and 3 squares, or others", x.punches(1, false, 1), 3);
        check.same("within 2: one does", x.punches(2, false, 1), 1);
        check.same("within 64", x.punches(64, false, 1), 1);
        // Rows of 1, 2, 3, 4 and 5: within 1 1 and 4, 2 and 4, 2 and 5 do; within 2 only that of 3 does
        HollowPunches y = Texts.of(FULL + "cut 1 1 1 1;cut 3 1 2 1;cut 1 3 3 1;cut 1 5 4 1;letter;ring 0 0 7 3;");
        check.same("within 1", y.punches(1, false, 1), 1 + 8);
        check.same("within 1", y.punches(1, false, 0), 2);
        check.same("within 2", y.punches(2, false, 1), 4);
        check.same("within 3", y.punches(3, false, 1), 2);
        HollowPunches l = Texts.of(TURNED_L + "mirror 0;");
        check.same("turned ones need none of their own", l.punches(0, false, 1), 1 + 16);
        check.same("nor do mirrored ones with mirrors", l.punches(0, true, 1), 1);
        check.same("without mirrors within 1", l.punches(1, false, 1), 1 + 16);
        check.same("with mirrors within 1", l.punches(1, true, 1), 1);
        check.same("within 2", l.punches(2, false, 1), 1);
        check.same("asked again within 0", l.punches(0, false, 1), 1 + 16);
        // Rows of 1, 3 and 2: the first two together are the lesser number, but the third alone does
        HollowPunches few = Texts.of(FULL + "cut 1 1 1 1;cut 3 1 3 1;cut 1 3 2 1;");
        check.same("fewer, though not the least number", few.punches(1, false, 1), 4);
        HollowPunches three = Texts.of(FULL + "cut 1 1 2 1;cut 4 1 3 1;cut 1 3 1 1;cut 3 3 1 1;");
        check.same("three of four", three.punches(0, false, 1), 7);
        HollowPunches falling = Texts.of(ROWS);
        int[] due = {15, 3, 1, 1};
        for (int t = 3; t >= 0; t--) {
            check.same("the greater t asked first, within " + t, falling.punches(t, true, 1), due[t]);
        }
    }

    private void punches() {
        check.says(11, "COUNTERPUNCHES within t: 0 how many, 1 the bits.");
        HollowPunches none = Texts.of("letter;");
        check.same("no hollows", none.punches(0, false, 0), 0);
        check.same("no hollows", none.punches(0, false, 1), 0);
        HollowPunches sixteen = Texts.of(EIGHTEEN);
        check.same("sixteen alike", sixteen.punches(0, false, 0), 1);
        check.same("sixteen alike", sixteen.punches(0, false, 1), 1);
        HollowPunches last = Texts.of(LAST_OF_TWO);
        check.same("how many", last.punches(0, false, 0), 2);
        check.same("the first and the last", last.punches(0, false, 1), 1 + (1 << 15));
        check.same("within 1", last.punches(1, false, 1), 1);
        check.says(11, "IllegalArgumentException: t (0 to 64), what.");
        check.same("t 0", sixteen.punches(0, true, 0), 1);
        check.same("t 64", sixteen.punches(64, true, 0), 1);
        for (int t : new int[] {-1, 65, LOW, HIGH}) {
            check.illegal("t " + t, () -> sixteen.punches(t, false, 0));
            check.illegal("t " + t + ", no hollows", () -> none.punches(t, true, 1));
        }
        for (int what : new int[] {-1, 2, LOW, HIGH}) {
            check.illegal("what " + what, () -> sixteen.punches(0, false, what));
        }
    }

    private void served() {
        check.says(12, "By which of these a HOLLOW is SERVED: the least number.");
        HollowPunches x = Texts.of(ROWS);
        int[] itself = {0, 1, 2, 3};
        int[] within = {0, 0, 0, 1};
        for (int h = 0; h < 4; h++) {
            check.same("within 0", x.served(h, 0, false), itself[h]);
            check.same("within 1, by 0 or by 1", x.served(h, 1, false), within[h]);
            check.same("within 64", x.served(h, 64, true), 0);
        }
        HollowPunches y = Texts.of(FULL + "cut 1 1 1 1;cut 5 5 1 1;cut 4 5 1 1;cut 5 4 1 1;");
        check.same("the set's own, though it could serve itself", y.served(0, 2, false), 1);
        HollowPunches l = Texts.of(TURNED_L + "mirror 0;");
        check.same("without mirrors", l.served(7, 0, false), 4);
        check.same("with mirrors", l.served(7, 0, true), 0);
        check.says(12, "IllegalArgumentException: t.");
        for (int t : new int[] {-1, 65, LOW, HIGH}) {
            check.illegal("t " + t, () -> x.served(0, t, false));
        }
    }

    private void upToInk() {
        check.says(14, "BITES: a file along a row (from the left, or the right), or a column (from above, below) "
                + "takes all there, up to the first INK;");
        // One bite each, which stops at the ink; behind it a square is hidden
        String[] cuts = {"cut 0 3 2 1;cut 3 3 1 1;", "cut 6 3 2 1;cut 4 3 1 1;", "cut 3 0 1 2;cut 3 3 1 1;",
            "cut 3 6 1 2;cut 3 4 1 1;"};
        for (int side = 0; side < 4; side++) {
            HollowPunches x = Texts.of(FULL + cuts[side]);
            check.same("one bite from side " + side, x.lines(0), 1L << 8 * side + 3);
            check.same("its minutes are those of two squares", x.hours(0, 0, 0), 3000);
            check.same("the third is hidden", x.letter(0, 4), 1);
        }
        HollowPunches both = Texts.of(FULL + "cut 0 3 7 1;cut 7 3 1 1;bar 4 3 1 1;");
        check.same("both ends of a row", both.lines(0), 1L << 3 | 1L << 11);
        check.same("seven squares", both.hours(0, 0, 0), 7000);
    }

    private void asOne() {
        check.says(14, "a row or column without INK whole, as one.");
        for (int i = 0; i < 8; i++) {
            HollowPunches row = Texts.of(FULL + "cut 0 " + i + " 8 1;");
            check.same("row " + i, row.lines(0), 1L << i);
            check.same("all its squares at once", row.hours(0, 0, 0), 8000);
            HollowPunches column = Texts.of(FULL + "cut " + i + " 0 1 8;");
            check.same("column " + i, column.lines(0), 1L << 16 + i);
            check.same("all its squares at once", column.hours(0, 0, 0), 8000);
        }
        HollowPunches all = Texts.of("letter;");
        check.same("no ink: eight bites", all.bites(0, 0), 8);
        check.same("no ink: rows", all.lines(0), 0xFF);
        HollowPunches nearly = Texts.of(FULL + "cut 0 5 7 1;");
        check.same("ink at the far end: from the left alone", nearly.lines(0), 1L << 5);
        HollowPunches far = Texts.of(FULL + "cut 1 5 7 1;");
        check.same("ink at the near end: from the right alone", far.lines(0), 1L << 13);
    }

    private void lineBits() {
        check.says(14, "LINES as bits: rows from the left 0 to 7, from the right 8 to 15, columns from above 16 to "
                + "23, from below 24 to 31 (one without INK: as from the left, from above).");
        for (int i = 0; i < 8; i++) {
            HollowPunches x = Texts.of(FULL + "cut 0 " + i + " 2 1;" + FULL + "cut 6 " + i + " 2 1;" + FULL + "cut " + i
                    + " 0 1 2;" + FULL + "cut " + i + " 6 1 2;");
            for (int side = 0; side < 4; side++) {
                check.same("line " + (8 * side + i), x.lines(side), 1L << 8 * side + i);
                check.same("one bite", x.bites(side, 0), 1);
                check.same("as an act", x.order(side, 0, 0, 0), 100 + 8 * side + i);
            }
        }
        check.says(14, "Their LINES.");
        HollowPunches x = Texts.of(FULL + "letter;" + FULL + "cut 7 6 1 2;");
        check.same("none", x.lines(0), 0);
        check.same("no ink", x.lines(1), 0xFF);
        check.same("the highest bit", x.lines(2), 0x80000000L);
        check.same("asked again", x.lines(2), 0x80000000L);
        for (int letter : new int[] {-1, 3, LOW, HIGH}) {
            check.noElement("lines(" + letter + ")", () -> x.lines(letter));
        }
    }

    private void fewest() {
        check.says(14, "The fewest BITES that take all squares REACHED; of all sets of so many the least:");
        String[] corners = {"cut 0 0 1 1;", "cut 7 0 1 1;", "cut 0 7 1 1;", "cut 7 7 1 1;"};
        int[] rows = {0, 8, 7, 15};
        for (int k = 0; k < 4; k++) {
            check.same("a corner, by its row", Texts.of(FULL + corners[k]).lines(0), 1L << rows[k]);
        }
        HollowPunches all = Texts.of(FULL + String.join("", corners));
        check.same("all corners", all.lines(0), 1L | 1L << 8 | 1L << 7 | 1L << 15);
        HollowPunches x = Texts.of("letter;bar 0 0 7 7;" + FULL + "cut 0 0 3 3;" + FULL + "cut 0 0 4 3;" + FULL
                + "cut 0 0 3 4;" + FULL + "cut 0 0 3 1;cut 0 1 1 2;" + FULL + "cut 0 2 8 1;cut 2 0 1 8;");
        check.same("a row and a column", x.lines(0), 1L << 7 | 1L << 23);
        check.same("three by three: rows", x.lines(1), 7);
        check.same("four across, three down: rows", x.lines(2), 7);
        check.same("three across, four down: columns", x.lines(3), 7L << 16);
        check.same("a corner with arms", x.lines(4), 1L | 1L << 16);
        check.same("a cross", x.lines(5), 1L << 2 | 1L << 18);
        // A staircase at the left, above: as few rows as columns, or some of both; only the least is right
        HollowPunches stairs = Texts.of(FULL + "cut 0 0 4 1;cut 0 1 3 1;cut 0 2 2 1;cut 0 3 1 1;");
        check.same("stairs: rows are the least", stairs.lines(0), 15);
        check.same("stairs: four", stairs.bites(0, 0), 4);
        HollowPunches many = Texts.of(FULL + "cut 0 0 3 8;" + FULL + "cut 0 0 8 3;" + FULL
                + "cut 5 0 3 8;cut 0 6 8 2;");
        check.same("three columns, not eight rows", many.lines(0), 7L << 16);
        check.same("three rows, not eight columns", many.lines(1), 7);
        check.same("two rows and three columns", many.lines(2), 3L << 6 | 7L << 21);
    }

    private void proof() {
        check.says(13, "PROOF: the most squares REACHED no two of which one BITE takes (as many).");
        // Ink along a corner line: seven bites at either end of rows, none of whole ones
        String diagonal = "letter;bar 0 0 1 1;bar 1 1 1 1;bar 2 2 1 1;bar 3 3 1 1;bar 4 4 1 1;bar 5 5 1 1;bar 6 6 1 1;"
                + "bar 7 7 1 1;";
        HollowPunches x = Texts.of(FULL + "letter;" + O + diagonal + FULL + "cut 0 0 1 1;");
        int[] due = {0, 8, 8, 14, 1};
        for (int letter = 0; letter < 5; letter++) {
            check.same("as many squares", x.bites(letter, 1), due[letter]);
            check.same("as bites", x.bites(letter, 0), due[letter]);
        }
    }

    private void bites() {
        check.says(13, "BITES: 0 how many, 1 PROOF.");
        HollowPunches x = Texts.of(FULL + "letter;");
        check.same("none", x.bites(0, 0), 0);
        check.same("none", x.bites(0, 1), 0);
        check.same("eight", x.bites(1, 0), 8);
        check.same("eight", x.bites(1, 1), 8);
        for (int what : new int[] {-1, 2, LOW, HIGH}) {
            check.illegal("what " + what, () -> x.bites(0, what));
        }
        for (int letter : new int[] {-1, 2, LOW, HIGH}) {
            check.noElement("letter " + letter, () -> x.bites(letter, 0));
            check.noElement("letter " + letter + ", and what", () -> x.bites(letter, 2));
        }
    }
}
