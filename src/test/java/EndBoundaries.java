/** Boundary cases of what can still be done, of nearest, originals, founts and images: promises 34 to 42. */
final class EndBoundaries extends Boundaries {
    /** Two hollows, and a slot between them that opens below. */
    private static final String SLOT = "letter;ring 0 0 6 6;cut 2 5 1 1;";

    EndBoundaries(DocCheck check) {
        super(check);
    }

    @Override
    void run() {
        can();
        canBesideGone();
        canAnswers();
        left();
        leftAnswers();
        bars();
        barsAnswers();
        nearest();
        nearestAnswers();
        twins();
        originals();
        founts();
        fountAnswers();
        images();
        restores();
        imagesOfNothing();
        imagesOfPlans();
        counts();
    }

    private void can() {
        check.says(34, "A PUNCH CAN still be DONE, if it is GOOD, and no HOLLOW of it that has squares there yet "
                + "has a square beside it (by a side, on the grid; none of it) that is gone.");
        HollowPunches slot = begun(SLOT);
        check.same("a new one", slot.can(), true);
        slot.file(3, 2, 3);
        check.same("the slot's mouth is beside none", slot.can(), true);
        slot.file(3, 2, 4);
        check.same("its first square is beside both", slot.can(), false);
        check.same("though it is good", slot.punch(0), 1);
        slot.begin(0);
        slot.blow(0);
        slot.file(3, 2, 4);
        check.same("one hollow is there yet", slot.can(), false);
        slot.begin(0);
        slot.blow(0);
        slot.blow(1);
        slot.file(3, 2, 7);
        check.same("none is there any more", slot.can(), true);
        slot.file(2, 0, 1);
        check.same("not good", slot.can(), false);
        HollowPunches none = begun("letter;");
        none.file(0, 0, 8);
        check.same("no ink", none.can(), true);
        HollowPunches full = begun(FULL);
        check.same("done already", full.can(), true);
        full.file(0, 0, 1);
        check.same("one of its ink", full.can(), false);
    }

    private void canBesideGone() {
        check.says(34, "(by a side, on the grid; none of it)");
        // A slot from above at x 2, y 0 to 1, and a hidden square at its end's corner, x 3, y 2, or beside it
        HollowPunches corner = begun(FULL + "cut 2 0 1 2;cut 3 2 1 1;");
        corner.file(2, 2, 2);
        check.same("by a corner", corner.can(), true);
        HollowPunches side = begun(FULL + "cut 2 0 1 2;cut 3 1 1 1;");
        check.same("a new one", side.can(), true);
        side.file(2, 2, 1);
        check.same("the slot's rim is not beside it", side.can(), true);
        side.file(2, 2, 2);
        check.same("by a side", side.can(), false);
        HollowPunches great = begun(GREAT_RING);
        great.blow(0);
        check.same("its own squares do not count", great.can(), true);
        // The hollow is of one letter, what is gone beside its place of another
        HollowPunches two = begun("letter;" + FULL + "cut 1 1 1 1;");
        two.file(0, 1, 1);
        check.same("hollows of other letters do not count", two.can(), true);
        // Two slots side by side leave no end of a row beside the next row's beginning
        HollowPunches end = begun(FULL + "cut 7 1 1 1;cut 1 2 1 1;");
        end.file(1, 1, 1);
        check.same("the end of the row above is not beside", end.can(), true);
    }

    private void canAnswers() {
        check.says(34, "Whether the PUNCH CAN still be DONE (false without).");
        HollowPunches x = Texts.of(O);
        check.same("without", x.can(), false);
        x.image();
        x.begin(0);
        check.same("with", x.can(), true);
        x.restore();
        check.same("without again", x.can(), false);
        x.begin(0);
        x.file(0, 1, 1);
        x.blow(0);
        check.same("burst", x.can(), false);
        check.same("a new object", new HollowPunches().can(), false);
    }

    private void left() {
        check.says(35, "LEFT: how many of its HOLLOWS have squares there yet, and the fewest LINES that take all "
                + "squares REACHED that are there yet, together.");
        HollowPunches slot = begun(SLOT);
        check.same("two hollows, a slot, two rows and two columns", slot.left(), 2 + 1 + 4);
        slot.blow(0);
        check.same("one hollow", slot.left(), 1 + 1 + 4);
        slot.blow(1);
        slot.file(3, 2, 6);
        check.same("one square of the slot is there yet", slot.left(), 1 + 4);
        slot.file(3, 2, 7);
        check.same("none", slot.left(), 4);
        HollowPunches full = begun(FULL);
        check.same("all ink", full.left(), 0);
        HollowPunches none = begun("letter;");
        for (int line = 0; line < 8; line++) {
            check.same("no ink", none.left(), 8 - line);
            none.file(0, line, 8);
        }
        check.same("done", none.left(), 0);
        HollowPunches rest = begun("letter;");
        for (int line = 0; line < 8; line++) {
            rest.file(0, line, 7);
        }
        check.same("a column is there yet", rest.left(), 1);
        HollowPunches o = begun(O);
        check.same("a hollow and eight bites", o.left(), 9);
        for (int line = 4; line < 8; line++) {
            o.file(0, line, 8);
        }
        check.same("four rows are gone", o.left(), 5);
    }

    private void leftAnswers() {
        check.says(35, "LEFT; NONE: it CAN not.");
        HollowPunches x = Texts.of(SLOT);
        check.same("no punch", x.left(), NONE);
        x.begin(0);
        x.file(3, 2, 4);
        check.same("beside a hollow", x.left(), NONE);
        x.begin(0);
        x.file(0, 0, 1);
        check.same("not good", x.left(), NONE);
        x.begin(0);
        check.same("a new one", x.left(), 7);
        HollowPunches others = Texts.of(EIGHTEEN + O);
        others.begin(1);
        check.same("a hollow behind the 16th is none", others.left(), 8);
        check.same("a new object", new HollowPunches().left(), NONE);
    }

    private void bars() {
        check.says(36, "STEEL: how many PUNCHES are begun till one is DONE, by chances (as of HOURS): 1,000 times "
                + "(cut).");
        HollowPunches x = Texts.of(FULL + "letter;" + GREAT_RING + FULL + "cut 1 1 2 2;");
        check.same("no acts: one", x.bars(0, 15, 15), 1000);
        check.same("no slips: one", x.bars(1, 15, 0), 1000);
        check.same("eight halves", x.bars(1, 0, 8), 256000);
        check.same("eight times 1 of 16", x.bars(1, 0, 15), 1000L << 32);
        check.same("7 of 16: 2285.7", x.bars(2, 0, 0), 2285);
        check.same("2 of 16", x.bars(2, 5, 0), 8000);
        check.same("1 of 16", x.bars(2, 6, 0), 16000);
        check.same("1 of 16 at least", x.bars(2, 15, 0), 16000);
        check.same("15 of 16: 1066.6", x.bars(3, 0, 0), 1066);
        check.says(36, "STEEL; NONE: more than 11 ACTS.");
        HollowPunches eleven = Texts.of(NINE + "cut 0 0 1 1;cut 7 7 1 1;");
        check.same("eleven", eleven.bars(0, 0, 0), 1000);
        check.same("eleven times 1 of 16", eleven.bars(0, 15, 15), 1000L << 44);
        HollowPunches twelve = Texts.of(NINE + "cut 0 0 1 1;cut 7 7 1 1;cut 7 0 1 1;");
        check.same("twelve", twelve.bars(0, 0, 0), NONE);
        check.illegal("twelve, and c", () -> twelve.bars(0, 16, 0));
    }

    private void barsAnswers() {
        check.says(36, "IllegalArgumentException: c, s.");
        HollowPunches x = Texts.of(O);
        check.same("c 15, s 15", x.bars(0, 15, 15), 1000L << 36);
        for (int wrong : new int[] {-1, 16, LOW, HIGH}) {
            check.illegal("c " + wrong, () -> x.bars(0, wrong, 0));
            check.illegal("s " + wrong, () -> x.bars(0, 0, wrong));
        }
        for (int letter : new int[] {-1, 1, LOW, HIGH}) {
            check.noElement("letter " + letter, () -> x.bars(letter, 0, 0));
            check.noElement("letter " + letter + ", and c", () -> x.bars(letter, 16, 0));
        }
    }

    private void nearest() {
        check.says(37, "NEAREST: of all HOLLOWS that which, as the first one, is least APART from told squares, of "
                + "these the first.");
        // Hollows: a single square, an L of 3 (its corner at the lower right), the same L once more
        HollowPunches x = Texts.of(FULL + "cut 1 1 1 1;cut 4 1 1 2;cut 3 2 1 1;cut 4 4 1 2;cut 3 5 1 1;");
        check.same("three hollows", x.told(2), 3);
        check.same("the L is turned", x.nearest(Texts.squares("##", "#"), false, 0), 1);
        check.same("by 0: of two the first", x.nearest(Texts.squares("#", "##"), false, 1), 0);
        check.same("one square, anywhere", x.nearest(1L << 63, false, 0), 0);
        check.same("one square, anywhere", x.nearest(1L << 63, false, 1), 0);
        // By a corner: the single square is apart by 3, the L, turned, by 1
        check.same("the hollow is the first one", x.nearest(Texts.squares(".#", "#"), false, 0), 1);
        check.same("the hollow is the first one", x.nearest(Texts.squares(".#", "#"), false, 1), 1);
        check.same("all squares", x.nearest(-1L, true, 0), 1);
        check.same("all squares", x.nearest(-1L, true, 1), 61);
        HollowPunches one = Texts.of(FULL + "cut 1 1 1 1;");
        check.same("all but the one where it lies", one.nearest(-2L, true, 0), 0);
        check.same("the farthest", one.nearest(-2L, true, 1), 64);
        HollowPunches l = Texts.of(FULL + "cut 1 1 1 1;cut 1 3 1 3;cut 2 5 1 1;");
        long mirrored = Texts.squares(".#", ".#", "##");
        check.same("its mirror image, by 2", l.nearest(mirrored, false, 1), 2);
        check.same("its mirror image, with mirrors", l.nearest(mirrored, true, 1), 0);
        check.same("its mirror image", l.nearest(mirrored, true, 0), 1);
    }

    private void nearestAnswers() {
        check.says(37, "NEAREST (what 0; NONE: no HOLLOWS), how far APART (1; NONE).");
        HollowPunches none = Texts.of("letter;" + FULL);
        check.same("no hollows", none.nearest(1, false, 0), NONE);
        check.same("no hollows", none.nearest(-1L, true, 1), NONE);
        HollowPunches sixteen = Texts.of(LAST_OF_TWO);
        check.same("the last one, of two squares", sixteen.nearest(3, false, 0), 15);
        check.same("by 0", sixteen.nearest(3, false, 1), 0);
        check.says(37, "IllegalArgumentException: squares 0, what.");
        HollowPunches x = Texts.of(O);
        for (HollowPunches y : new HollowPunches[] {x, none}) {
            check.illegal("squares 0", () -> y.nearest(0, false, 0));
            for (int what : new int[] {-1, 2, LOW, HIGH}) {
                check.illegal("what " + what, () -> y.nearest(1, false, what));
            }
        }
        check.same("the highest bit alone is a square", x.nearest(Long.MIN_VALUE, false, 1), 3);
    }

    private void twins() {
        check.says(38, "TWINS are two LETTERS with INK, of which one's SHAPE is that of some quarter turn of the "
                + "other one (with mirrors: of its mirror image, too):");
        String l = "letter;bar 0 0 1 3;bar 1 2 1 1;";
        String moved = "letter;bar 5 4 1 3;bar 6 6 1 1;";
        String quarter = "letter;bar 5 7 3 1;bar 7 6 1 1;";
        String threeQuarters = "letter;bar 0 0 3 1;bar 0 1 1 1;";
        HollowPunches x = Texts.of(l + moved + quarter + threeQuarters + "turned 0;");
        check.same("moved and turned ones are twins", x.originals(false, 1), 1);
        HollowPunches y = Texts.of(l + "mirror 0;");
        check.same("mirrored ones are none", y.originals(false, 1), 3);
        check.same("but with mirrors", y.originals(true, 1), 1);
        HollowPunches none = Texts.of("letter;letter;turned 0;mirror 0;");
        check.same("without ink there are none", none.originals(true, 1), 0);
        HollowPunches part = Texts.of(l + "letter;bar 0 0 1 3;");
        check.same("a part is no twin", part.originals(true, 1), 3);
    }

    private void originals() {
        check.says(38, "ORIGINALS are LETTERS with INK that have no TWIN of a lesser number.");
        HollowPunches x = Texts.of("letter;" + FULL + FULL + "letter;letter;bar 7 7 1 1;letter;bar 0 0 1 1;");
        check.same("the first of each kind", x.originals(false, 1), 2 + 16);
        check.same("with mirrors", x.originals(true, 1), 2 + 16);
        check.says(38, "ORIGINALS: 0 how many, 1 the bits.");
        check.same("two", x.originals(false, 0), 2);
        check.same("none", Texts.of("letter;").originals(false, 0), 0);
        StringBuilder ten = new StringBuilder();
        for (int k = 1; k <= 8; k++) {
            ten.append("letter;bar 0 0 ").append(k).append(" 1;");
        }
        HollowPunches all = Texts.of(ten + "letter;bar 0 0 2 2;letter;bar 0 0 3 2;");
        check.same("ten", all.originals(true, 0), 10);
        check.same("ten", all.originals(false, 1), 1023);
        for (int what : new int[] {-1, 2, LOW, HIGH}) {
            check.illegal("what " + what, () -> x.originals(false, what));
            check.illegal("no letters, what " + what, () -> new HollowPunches().originals(true, what));
        }
    }

    private void founts() {
        check.says(39, "FOUNT of SIZES (bits: 0 for SIZE 1, .., 8 for 9): the fewest groups so that in each 16 "
                + "times the greatest SIZE, times itself, is no more than 16 and t (0 to 99) times the least one, "
                + "times itself; times COUNTERPUNCHES (within 0).");
        HollowPunches x = Texts.of(O);
        for (int size = 1; size <= 9; size++) {
            check.same("one size", x.fount(1 << size - 1, 0, false), 1);
        }
        check.same("all, t 0: each alone", x.fount(511, 0, false), 9);
        // From size a to b in one group: t 16 (b * b - a * a) by a * a at least
        for (int a = 1; a <= 9; a++) {
            for (int b = a + 1; b <= 9; b++) {
                int least = (16 * (b * b - a * a) + a * a - 1) / (a * a);
                int sizes = 1 << a - 1 | 1 << b - 1;
                if (least <= 99) {
                    check.same(a + " and " + b + " with " + least, x.fount(sizes, least, false), 1);
                }
                int less = Math.min(99, least - 1);
                check.same(a + " and " + b + " with " + less, x.fount(sizes, less, false), 2);
            }
        }
        // With t 99 115 by 16: 1 and 2, 3 to 8, 9; 2 to 5, 6 to 9
        check.same("all, t 99", x.fount(511, 99, false), 3);
        check.same("2 to 9, t 99", x.fount(510, 99, false), 2);
        HollowPunches two = Texts.of(FULL + "cut 1 1 1 1;cut 3 3 2 1;cut 6 5 1 2;");
        check.same("times two", two.fount(511, 0, false), 18);
        HollowPunches l = Texts.of(FULL + "cut 1 1 1 3;cut 2 3 1 1;mirror 0;");
        check.same("without mirrors", l.fount(3, 48, false), 2);
        check.same("with mirrors", l.fount(3, 48, true), 1);
    }

    private void fountAnswers() {
        check.says(39, "FOUNT.");
        check.same("no hollows", Texts.of("letter;" + FULL).fount(511, 0, false), 0);
        check.same("no letters", new HollowPunches().fount(1, 99, true), 0);
        check.says(39, "IllegalArgumentException: bits (1 to 511), t.");
        HollowPunches x = Texts.of(O);
        check.same("bits 1", x.fount(1, 99, false), 1);
        check.same("bits 511", x.fount(511, 99, true), 3);
        for (int bits : new int[] {0, -1, 512, LOW, HIGH}) {
            check.illegal("bits " + bits, () -> x.fount(bits, 0, false));
            check.illegal("no letters, bits " + bits, () -> new HollowPunches().fount(bits, 0, false));
        }
        for (int t : new int[] {-1, 100, LOW, HIGH}) {
            check.illegal("t " + t, () -> x.fount(1, t, true));
        }
    }

    private void images() {
        check.says(40, "An IMAGE of the PUNCH, the PLAN and PRINTS: how many there are; -1: there are 3.");
        HollowPunches x = begun(O + FULL);
        check.same("the first", x.image(), 1);
        check.same("the second", x.image(), 2);
        check.same("the third", x.image(), 3);
        x.file(0, 0, 8);
        x.addBlow(0);
        x.print(1);
        check.same("there are 3", x.image(), -1);
        check.same("three", x.count(2), 3);
        check.same("the refused one did nothing", x.restore(), 2);
        check.same("the punch of the third", x.steel(), -1L);
        check.same("its plan", x.count(0), 0);
        check.same("its prints", x.count(1), 0);
        check.same("there is room again", x.image(), 3);
    }

    private void restores() {
        check.says(41, "All is as in the latest IMAGE, which is gone: how many are left; -1: there is none.");
        HollowPunches x = Texts.of(O + FULL);
        check.same("there is none", x.restore(), -1);
        x.begin(0);
        x.file(0, 1, 1);
        x.blow(0);
        for (int acts = 0; acts < 39; acts++) {
            x.addFile(0, 7, 8);
        }
        x.addFile(0, 0, 1);
        for (int n = 0; n < 8; n++) {
            x.print(n < 7 ? 1 : 7);
        }
        x.image();
        x.begin(1);
        x.clear();
        x.addFile(1, 1, 1);
        x.image();
        x.begin(0);
        x.file(3, 7, 8);
        x.clear();
        Texts.put(x, "letter;");
        check.same("the latest", x.restore(), 1);
        check.same("its punch", x.steel(), -1L);
        check.same("its punch's letter", x.blow(0), -2);
        check.same("its plan", x.count(0), 1);
        check.same("its act", x.judge(1, 0), 0);
        check.same("the tape is none of it", x.count(3), 20);
        check.same("the first", x.restore(), 0);
        check.same("its punch", x.steel(), ~Texts.squares(".##.", "####", "####", ".##."));
        check.same("it has burst", x.punch(2), 1);
        check.same("its punch's letter", x.blow(0), 0);
        check.same("its plan", x.count(0), 40);
        check.same("its last act", x.judge(0, 0), 39);
        check.same("its prints", x.count(1), 8);
        check.same("its last print", x.partings(0, false, 2), 128);
        check.same("there is none", x.restore(), -1);
        check.same("nothing is done then", x.count(0), 40);
        check.same("fault() is none of it", x.fault(), NONE);
    }

    private void imagesOfNothing() {
        check.says(41, "All is as in the latest IMAGE, which is gone");
        HollowPunches x = Texts.of(O);
        x.image();
        x.begin(0);
        x.addBlow(0);
        x.print(1);
        check.same("restore()", x.restore(), 0);
        check.same("no punch", x.punch(0), NONE);
        check.same("no steel", x.steel(), 0);
        check.same("no plan", x.clear(), 0);
        check.same("no prints", x.count(1), 0);
        x.begin(0);
        x.image();
        x.blow(0);
        x.image();
        x.blow(0);
        x.file(0, 0, 8);
        check.same("the later one", x.restore(), 1);
        check.same("struck", Long.bitCount(x.steel()), 60);
        check.same("the earlier one", x.restore(), 0);
        check.same("not struck yet", x.steel(), -1L);
        x.image();
        Texts.tell(x, O);
        check.same("a new sheet has no images", x.restore(), -1);
    }

    private void imagesOfPlans() {
        check.says(40, "An IMAGE of the PUNCH, the PLAN and PRINTS");
        HollowPunches x = begun(O);
        x.addBlow(0);
        for (int line = 0; line < 8; line++) {
            x.addFile(1, line, line < 4 ? 4 : 8);
        }
        x.image();
        x.file(0, 1, 1);
        x.blow(0);
        x.clear();
        x.addFile(0, 0, 8);
        for (int acts = 1; acts < 20; acts++) {
            x.addBlow(0);
        }
        check.same("another plan", x.judge(0, 0), 0);
        check.same("restore()", x.restore(), 0);
        check.same("each act is as it was", x.judge(0, 0), NONE);
        check.same("all together are", x.judge(0, 1), 1);
        check.same("its punch has not burst", x.punch(2), 0);
        x.file(0, 1, 1);
        x.blow(0);
        x.image();
        x.begin(0);
        x.restore();
        check.same("its punch has burst", x.punch(2), 1);
    }

    private void counts() {
        check.says(42, "0 ACTS of the PLAN, 1 PRINTS, 2 IMAGES, 3 bytes of the TAPE; NONE for others.");
        HollowPunches x = Texts.of(O);
        for (int what = 0; what < 4; what++) {
            check.same("none", x.count(what), 0);
        }
        for (int acts = 0; acts < 41; acts++) {
            x.addBlow(0);
        }
        for (int prints = 0; prints < 9; prints++) {
            x.print(1);
        }
        for (int images = 0; images < 4; images++) {
            x.image();
        }
        Texts.put(x, " ".repeat(500));
        x.feed(0, 0, 0, 0, 0);
        int[] most = {40, 8, 3, 500};
        for (int what = 0; what < 4; what++) {
            check.same("the most", x.count(what), most[what]);
        }
        for (int what : new int[] {-1, 4, LOW, HIGH}) {
            check.same("others", x.count(what), NONE);
        }
    }
}
