/** Boundary cases of punches, plans and hours: promises 15 to 25, and the terms' third part. */
final class PunchBoundaries extends Boundaries {
    private static final long CORNERS = 0x8100000000000081L;

    PunchBoundaries(DocCheck check) {
        super(check);
    }

    @Override
    void run() {
        begins();
        blows();
        bursts();
        burstsInPart();
        blowAnswers();
        files();
        fileAnswers();
        steel();
        good();
        done();
        punch();
        planBlows();
        planFiles();
        clears();
        judged();
        judgedFromNew();
        judgeAnswers();
        cutByBlowsThenBites();
        blowChances();
        biteChances();
        anew();
        means();
        orders();
        without();
        eleven();
        hoursAnswers();
        orderAnswers();
    }

    private void begins() {
        check.says(15, "A new PUNCH of a LETTER is begun.");
        HollowPunches x = Texts.of(O + FULL);
        x.addBlow(0);
        x.print(1);
        x.begin(0);
        x.file(0, 1, 1);
        x.blow(0);
        for (int letter : new int[] {-1, 2, LOW, HIGH}) {
            check.noElement("begin(" + letter + ")", () -> x.begin(letter));
        }
        check.same("a refused one leaves the punch", Long.bitCount(x.steel()), 64 - 12);
        check.same("as it was", x.punch(2), 1);
        x.begin(0);
        check.same("all steel again", x.steel(), -1L);
        check.same("not burst any more", x.punch(2), 0);
        x.begin(1);
        check.same("of another letter", x.blow(0), -2);
        check.same("the plan stays", x.count(0), 1);
        check.same("prints stay", x.count(1), 1);
        check.says(15, "A PUNCH of a LETTER, all steel at first.");
        check.same("all steel", x.steel(), -1L);
        check.same("without ink, too", steelOfNew("letter;"), -1L);
    }

    private static long steelOfNew(String text) {
        HollowPunches x = begun(text);
        return x.steel();
    }

    private void blows() {
        check.says(16, "ACTS: a BLOW of a HOLLOW of it: all its squares go;");
        HollowPunches great = begun(GREAT_RING);
        check.same("the greatest", great.blow(0), 36);
        check.same("just its squares", great.steel(), 0xFF818181818181FFL);
        check.same("no burst", great.punch(2), 0);
        HollowPunches least = begun(FULL + "cut 6 6 1 1;");
        check.same("the least", least.blow(0), 1);
        check.same("just its square", least.steel(), ~(1L << 54));
        HollowPunches last = begun(NINE + "cut 2 6 5 1;");
        check.same("two squares and a row below them", last.blow(7), 2 + 5);
        check.same("no burst", last.punch(2), 0);
    }

    private void bursts() {
        check.says(16, "it BURSTS (and goes all the same, with all four beside each of them), if a square that is "
                + "beside one of them by a side (on the grid) is gone already, and is none of it.");
        HollowPunches great = begun(GREAT_RING);
        great.file(0, 1, 1);
        check.same("36, and 24 beside, less one gone", great.blow(0), 36 + 24 - 1);
        check.same("what is beside by a corner stays", great.steel(), CORNERS);
        check.same("it has burst", great.punch(2), 1);
        HollowPunches corner = begun(GREAT_RING);
        corner.file(0, 0, 1);
        corner.file(1, 7, 1);
        check.same("corners are not beside", corner.blow(0), 36);
        check.same("no burst", corner.punch(2), 0);
        // Side, line, and how many squares there are ahead of the one beside x 3, y 2
        int[][] ways = {{0, 2, 2}, {1, 2, 3}, {2, 3, 1}, {3, 3, 4}};
        for (int[] way : ways) {
            HollowPunches one = begun(FULL + "cut 3 2 1 1;");
            one.file(way[0], way[1], way[2]);
            check.same("not beside yet, from side " + way[0], one.blow(0), 1);
            check.same("no burst", one.punch(2), 0);
            one.begin(0);
            one.file(way[0], way[1], way[2] + 1);
            check.same("beside, from side " + way[0], one.blow(0), 1 + 4 - 1);
            check.same("burst", one.punch(2), 1);
        }
        HollowPunches again = begun(GREAT_RING);
        again.blow(0);
        check.same("its own squares do not count", again.blow(0), 0);
        check.same("no burst", again.punch(2), 0);
        check.same("all beside stay", again.steel(), 0xFF818181818181FFL);
    }

    private void burstsInPart() {
        check.says(16, "(and goes all the same, with all four beside each of them)");
        HollowPunches in = begun(FULL + "cut 3 2 1 1;");
        in.file(0, 2, 4);
        check.same("it is gone, with one beside: three go", in.blow(0), 3);
        check.same("burst", in.punch(2), 1);
        HollowPunches two = begun(FULL + "cut 1 1 1 1;cut 3 1 1 1;");
        two.file(2, 1, 1);
        check.same("the first bursts", two.blow(0), 4);
        check.same("what it took is beside the next", two.blow(1), 4);
        check.same("burst", two.punch(2), 1);
        HollowPunches later = begun(FULL + "cut 1 1 1 1;cut 5 5 1 1;");
        later.file(2, 1, 1);
        later.blow(0);
        check.same("another goes well", later.blow(1), 1);
        check.same("yet it has burst once", later.punch(2), 1);
    }

    private void blowAnswers() {
        check.says(16, "A BLOW: how many squares go; -1: no PUNCH; -2: the HOLLOW is of another LETTER.");
        HollowPunches x = Texts.of(O + FULL + "cut 1 1 1 1;");
        check.same("no punch", x.blow(0), -1);
        check.same("no punch", x.blow(1), -1);
        check.noIndex("no punch, no such hollow", () -> x.blow(2));
        x.begin(0);
        check.same("of another letter", x.blow(1), -2);
        check.same("nothing goes", x.steel(), -1L);
        check.same("its own", x.blow(0), 4);
        check.noIndex("no such hollow", () -> x.blow(2));
        check.noIndex("no such hollow", () -> x.blow(-1));
        check.same("nothing more goes", Long.bitCount(x.steel()), 60);
        x.begin(1);
        check.same("of the first letter", x.blow(0), -2);
    }

    private void files() {
        check.says(17, "A FILE from a side (0 left, 1 right, 2 above, 3 below) on a line takes n squares (1 to 8) "
                + "from the rim inward, gone or not.");
        for (int side = 0; side < 4; side++) {
            for (int line = 0; line < 8; line++) {
                for (int n = 1; n <= 8; n++) {
                    HollowPunches x = begun("letter;");
                    check.same("file", x.file(side, line, n), n);
                    check.same("what goes from " + side + " on " + line, ~x.steel(), filed(side, line, n));
                    check.same("gone or not", x.file(side, line, 8), 8 - n);
                    check.same("all of the line", ~x.steel(), filed(side, line, 8));
                    check.same("all gone", x.file(side, line, n), 0);
                }
            }
        }
        HollowPunches ink = begun(FULL);
        check.same("ink does not stop it", ink.file(1, 7, 8), 8);
    }

    private static long filed(int side, int line, int n) {
        long squares = 0;
        for (int k = 0; k < n; k++) {
            int deep = side % 2 == 0 ? k : 7 - k;
            squares |= 1L << (side < 2 ? 8 * line + deep : 8 * deep + line);
        }
        return squares;
    }

    private void fileAnswers() {
        check.says(17, "A FILE: how many squares go (that were there); -1: no PUNCH.");
        HollowPunches x = Texts.of("letter;");
        check.same("no punch", x.file(0, 0, 1), -1);
        x.begin(0);
        check.same("three", x.file(0, 2, 3), 3);
        check.same("two of these are gone", x.file(2, 2, 4), 3);
        check.same("from the other side", x.file(1, 2, 8), 5);
        check.same("none is there any more", x.file(0, 2, 8), 0);
        check.says(17, "IllegalArgumentException: side, line (0 to 7), n.");
        HollowPunches none = Texts.of("letter;");
        for (HollowPunches y : new HollowPunches[] {x, none}) {
            for (int wrong : new int[] {-1, LOW, HIGH, 9}) {
                check.illegal("side " + wrong, () -> y.file(wrong, 0, 1));
                check.illegal("line " + wrong, () -> y.file(0, wrong, 1));
                check.illegal("n " + wrong, () -> y.file(0, 0, wrong));
            }
            check.illegal("side 4", () -> y.file(4, 0, 1));
            check.illegal("line 8", () -> y.file(0, 8, 1));
            check.illegal("n 0", () -> y.file(0, 0, 0));
        }
        check.same("nothing went", Long.bitCount(x.steel()), 64 - 11);
        check.same("side 3, line 7, n 8", x.file(3, 7, 8), 7);
    }

    private void steel() {
        check.says(18, "Squares of the PUNCH that are still there; 0 without.");
        HollowPunches x = Texts.of("letter;");
        check.same("without", x.steel(), 0);
        x.begin(0);
        check.same("all", x.steel(), -1L);
        for (int line = 0; line < 7; line++) {
            x.file(0, line, 8);
        }
        check.same("the last row", x.steel(), 0xFFL << 56);
        x.file(0, 7, 7);
        check.same("the last square", x.steel(), 1L << 63);
        x.file(0, 7, 8);
        check.same("none", x.steel(), 0);
        check.same("yet there is a punch", x.punch(0), 1);
    }

    private void good() {
        check.says(19, "GOOD: no square with INK is gone.");
        HollowPunches x = begun("letter;bar 7 7 1 1;");
        check.same("a new one", x.punch(0), 1);
        x.file(0, 7, 7);
        check.same("all but the ink of its row", x.punch(0), 1);
        x.file(3, 7, 1);
        check.same("the only ink is gone", x.punch(0), 0);
        HollowPunches full = begun(FULL);
        check.same("all ink", full.punch(0), 1);
        full.file(0, 0, 1);
        check.same("one of all is gone", full.punch(0), 0);
        HollowPunches none = begun("letter;");
        none.file(0, 0, 8);
        check.same("without ink nothing spoils", none.punch(0), 1);
    }

    private void done() {
        check.says(19, "DONE: GOOD, and all without INK are gone.");
        check.same("all ink: done at once", begun(FULL).punch(1), 1);
        HollowPunches none = begun("letter;");
        for (int line = 0; line < 8; line++) {
            check.same("not yet", none.punch(1), 0);
            none.file(0, line, 8);
        }
        check.same("no ink: all gone", none.punch(1), 1);
        HollowPunches x = begun("letter;bar 0 0 7 8;");
        x.file(3, 7, 7);
        check.same("one is left", x.punch(1), 0);
        x.file(2, 7, 1);
        check.same("none is left", x.punch(1), 1);
        x.file(0, 0, 1);
        check.same("what is gone can't come back", x.punch(1), 0);
        HollowPunches bad = begun("letter;bar 0 0 7 8;");
        bad.file(1, 0, 2);
        bad.file(2, 7, 8);
        check.same("all without ink are gone, but not good", bad.punch(1), 0);
    }

    private void punch() {
        check.says(19, "0 whether it is GOOD, 1 DONE, 2 whether it has BURST (1, 0); NONE without a PUNCH.");
        HollowPunches x = Texts.of(O);
        for (int what = 0; what < 3; what++) {
            check.same("without", x.punch(what), NONE);
        }
        for (int what : new int[] {-1, 3, LOW, HIGH}) {
            check.illegal("without, what " + what, () -> x.punch(what));
        }
        x.begin(0);
        check.same("good", x.punch(0), 1);
        check.same("not done", x.punch(1), 0);
        check.same("not burst", x.punch(2), 0);
        for (int what : new int[] {-1, 3, LOW, HIGH}) {
            check.illegal("what " + what, () -> x.punch(what));
        }
        x.file(0, 1, 1);
        x.blow(0);
        check.same("not good", x.punch(0), 0);
        check.same("not done", x.punch(1), 0);
        check.same("burst", x.punch(2), 1);
    }

    private void planBlows() {
        check.says(20, "A BLOW comes to the PLAN: how many ACTS there are; -1: there are 40.");
        HollowPunches x = Texts.of(O);
        check.noIndex("no such hollow", () -> x.addBlow(1));
        check.noIndex("no such hollow", () -> x.addBlow(-1));
        for (int acts = 1; acts <= 40; acts++) {
            check.same("acts", x.addBlow(0), acts);
        }
        check.same("there are 40", x.addBlow(0), -1);
        check.noIndex("there are 40, and no such hollow", () -> x.addBlow(1));
        check.same("40", x.count(0), 40);
        check.same("no punch is needed, none is touched", x.punch(0), NONE);
    }

    private void planFiles() {
        check.says(21, "Likewise a FILE.");
        HollowPunches x = Texts.of(O);
        for (int wrong : new int[] {-1, LOW, HIGH, 9}) {
            check.illegal("side " + wrong, () -> x.addFile(wrong, 0, 1));
            check.illegal("line " + wrong, () -> x.addFile(0, wrong, 1));
            check.illegal("n " + wrong, () -> x.addFile(0, 0, wrong));
        }
        check.illegal("side 4", () -> x.addFile(4, 0, 1));
        check.illegal("line 8", () -> x.addFile(0, 8, 1));
        check.illegal("n 0", () -> x.addFile(0, 0, 0));
        check.same("none came", x.count(0), 0);
        for (int acts = 1; acts <= 40; acts++) {
            check.same("acts", acts % 2 == 0 ? x.addBlow(0) : x.addFile(3, 7, 8), acts);
        }
        check.same("there are 40", x.addFile(0, 0, 1), -1);
        check.same("there are 40", x.addBlow(0), -1);
        check.illegal("there are 40, and no such side", () -> x.addFile(4, 0, 1));
        check.same("the 41st did not come", x.judge(0, 0), NONE);
    }

    private void clears() {
        check.says(22, "The PLAN goes: how many ACTS.");
        HollowPunches x = Texts.of(O);
        check.same("none", x.clear(), 0);
        x.addBlow(0);
        check.same("one", x.clear(), 1);
        check.same("none any more", x.clear(), 0);
        for (int acts = 1; acts <= 40; acts++) {
            x.addFile(0, 0, 1);
        }
        check.same("40", x.clear(), 40);
        check.same("count(0)", x.count(0), 0);
        check.same("judged as an empty one", x.judge(0, 0), NONE);
        check.same("there is room again", x.addBlow(0), 1);
    }

    private void judged() {
        check.says(23, "A PLAN: ACTS, 40 at most, from a new PUNCH: JUDGED: the number of the first ACT behind "
                + "which it is not GOOD, NONE without; whether it is DONE behind all.");
        HollowPunches x = Texts.of(O + FULL);
        check.same("an empty plan", x.judge(0, 0), NONE);
        check.same("an empty plan is not done", x.judge(0, 1), 0);
        check.same("but for a letter that is all ink", x.judge(1, 1), 1);
        for (int acts = 1; acts <= 39; acts++) {
            x.addFile(0, 7, 8);
        }
        check.same("39 do no harm", x.judge(0, 0), NONE);
        check.same("to the other the first does", x.judge(1, 0), 0);
        x.addFile(0, 0, 1);
        check.same("the 40th", x.judge(0, 0), 39);
        check.same("not done", x.judge(0, 1), 0);
        x.clear();
        x.addBlow(0);
        for (int line = 0; line < 8; line++) {
            check.same("not done yet", x.judge(0, 1), 0);
            x.addFile(1, line, line < 4 ? 4 : 8);
        }
        check.same("done", x.judge(0, 1), 1);
        check.same("good", x.judge(0, 0), NONE);
        x.addFile(0, 3, 4);
        x.addFile(0, 2, 4);
        check.same("the first that spoils", x.judge(0, 0), 9);
        check.same("done no more", x.judge(0, 1), 0);
    }

    private void judgedFromNew() {
        check.says(23, "from a new PUNCH");
        HollowPunches x = begun(O);
        x.file(0, 0, 8);
        x.addFile(3, 7, 1);
        check.same("what the punch has lost does not count", x.judge(0, 0), NONE);
        check.same("nor does the plan touch it", x.steel(), ~0xFFL);
        x.addFile(2, 1, 1);
        x.addBlow(0);
        check.same("a plan's blow bursts", x.judge(0, 0), 1);
        check.same("the punch has not", x.punch(2), 0);
        HollowPunches slot = Texts.of("letter;ring 0 0 6 6;cut 2 5 1 1;");
        slot.addFile(3, 2, 7);
        check.same("the slot alone", slot.judge(0, 0), NONE);
        slot.addBlow(0);
        check.same("a blow beside it bursts", slot.judge(0, 0), 1);
        slot.clear();
        slot.addBlow(0);
        slot.addBlow(1);
        slot.addFile(3, 2, 7);
        check.same("the other way round is good", slot.judge(0, 0), NONE);
    }

    private void judgeAnswers() {
        check.says(23, "JUDGED for a LETTER (BLOWS of HOLLOWS of others do nothing): the first (what 0; NONE), "
                + "whether it is DONE (1: 1, 0).");
        HollowPunches x = Texts.of(FULL + "cut 1 1 1 1;" + FULL + "cut 1 1 1 1;" + FULL);
        x.addBlow(0);
        check.same("its own", x.judge(0, 1), 1);
        check.same("of another: not done", x.judge(1, 1), 0);
        check.same("of another: no harm", x.judge(1, 0), NONE);
        check.same("of another: no harm", x.judge(2, 0), NONE);
        check.same("of another: done all the same", x.judge(2, 1), 1);
        x.addBlow(1);
        check.same("both", x.judge(0, 1) + x.judge(1, 1), 2);
        for (int what : new int[] {-1, 2, LOW, HIGH}) {
            check.illegal("what " + what, () -> x.judge(0, what));
        }
        for (int letter : new int[] {-1, 3, LOW, HIGH}) {
            check.noElement("letter " + letter, () -> x.judge(letter, 0));
            check.noElement("letter " + letter + ", and what", () -> x.judge(letter, 2));
        }
    }

    private void cutByBlowsThenBites() {
        check.says(24, "HOURS: a LETTER is cut by its HOLLOWS' BLOWS, then by its fewest BITES (least set).");
        // A blow of 4 squares, bites of 1 and 2: the bites come behind, though they are shorter
        HollowPunches x = Texts.of(FULL + "cut 2 2 2 2;cut 0 5 2 1;cut 7 0 1 1;" + FULL + "cut 1 1 1 1;");
        int[] due = {0, 108, 105, NONE};
        for (int k = 0; k < due.length; k++) {
            check.same("act " + k, x.order(0, 0, 1, k), due[k]);
        }
        check.same("not the other letter's hollow", x.order(1, 0, 0, 0), 1);
        check.same("nothing else", x.order(1, 0, 0, 1), NONE);
        check.same("no acts at all", Texts.of(FULL).hours(0, 15, 15), 0);
        HollowPunches two = Texts.of(FULL + "cut 0 3 2 1;" + FULL + "cut 0 3 5 1;letter;");
        for (int turn = 0; turn < 3; turn++) {
            check.same("of the first", two.hours(0, 0, 0), 2000);
            check.same("of the second", two.hours(1, 0, 0), 5000);
            check.same("of the third", two.hours(2, 0, 0), 64000);
        }
        // Two bites in a corner's arms, by the least set: row 0, column 0
        HollowPunches arms = Texts.of(FULL + "cut 0 0 3 1;cut 0 1 1 2;");
        check.same("a row", arms.order(0, 0, 0, 0), 100);
        check.same("a column", arms.order(0, 0, 0, 1), 116);
    }

    private void blowChances() {
        check.says(24, "A BLOW takes as many MINUTES as squares, and fails with c and a quarter of its squares "
                + "(cut) of 16 (15 at most);");
        HollowPunches x = Texts.of(FULL + "cut 1 1 3 1;" + FULL + "cut 1 1 2 2;" + FULL + "cut 1 1 6 1;cut 1 2 1 1;"
                + FULL + "cut 1 1 4 2;" + GREAT_RING);
        check.same("3 squares: 0 of 16", x.hours(0, 0, 0), 3000);
        check.same("4 squares: 1 of 16", x.hours(1, 0, 0), 4266);
        check.same("7 squares: 1 of 16", x.hours(2, 0, 0), 7466);
        check.same("8 squares: 2 of 16", x.hours(3, 0, 0), 9142);
        check.same("36 squares: 9 of 16", x.hours(4, 0, 0), 82285);
        check.same("c 5: 14 of 16", x.hours(4, 5, 0), 288000);
        check.same("c 6: 15 of 16", x.hours(4, 6, 0), 576000);
        check.same("c 7: 15 of 16 at most", x.hours(4, 7, 0), 576000);
        check.same("c 15: 15 of 16 at most", x.hours(4, 15, 0), 576000);
        check.same("3 squares, c 15", x.hours(0, 15, 0), 48000);
        check.same("3 squares, c 1", x.hours(0, 1, 0), 3200);
        check.same("s is none of a blow's", x.hours(4, 0, 15), 82285);
    }

    private void biteChances() {
        check.says(24, "a BITE takes as many MINUTES as squares REACHED that it takes, and fails with s of 16 (c, s "
                + "0 to 15).");
        HollowPunches x = Texts.of(FULL + "cut 0 3 2 1;" + FULL + "cut 0 2 8 1;cut 2 0 1 8;" + "letter;");
        check.same("2 squares, s 0", x.hours(0, 0, 0), 2000);
        check.same("2 squares, s 8", x.hours(0, 0, 8), 4000);
        check.same("2 squares, s 15", x.hours(0, 0, 15), 32000);
        check.same("c is none of a bite's", x.hours(0, 15, 8), 4000);
        check.same("a square of two bites counts for each", x.hours(1, 0, 0), 16000);
        check.same("a quarter of its squares is none of a bite's", x.hours(2, 0, 0), 64000);
        for (int wrong : new int[] {-1, 16, LOW, HIGH}) {
            check.illegal("c " + wrong, () -> x.hours(0, wrong, 0));
            check.illegal("s " + wrong, () -> x.hours(0, 0, wrong));
            check.illegal("order, c " + wrong, () -> x.order(0, wrong, 0, 0));
            check.illegal("order, s " + wrong, () -> x.order(0, 0, wrong, 0));
        }
    }

    private void anew() {
        check.says(24, "Who fails begins anew.");
        HollowPunches x = Texts.of(FULL + "cut 0 3 2 1;cut 7 5 1 1;" + FULL + "cut 1 1 2 2;cut 0 4 2 1;");
        // 1 and 2 minutes by half each: (1 + 2 / 2) by a quarter
        check.same("two bites", x.hours(0, 0, 8), 8000);
        // 4 minutes with 15 of 16, then 2 by half: (4 + 2 * 15 / 16) by 15 of 32
        check.same("a blow and a bite", x.hours(1, 0, 8), 12533);
    }

    private void means() {
        check.says(24, "MEAN: MINUTES till it is DONE, by chances, in the best order of BLOWS, then of BITES: each "
                + "row of ACTS by MINUTES of each times the chance that all ahead go well, all together, by the "
                + "chance that all do: 1,000 times (cut);");
        HollowPunches x = Texts.of("letter;" + FULL + O);
        check.same("no chance", x.hours(0, 0, 0), 64000);
        check.same("by halves: 8 times (2 + .. + 256)", x.hours(0, 0, 8), 4080000);
        check.same("by 1 of 16: 8 times (16 + .. + 16^8)", x.hours(0, 0, 15), 8000L * ((1L << 36) - 16) / 15);
        check.same("no acts: 0", x.hours(1, 15, 15), 0);
        // A blow of 4, four bites of 4, four of 8: 4 * 16^9 + 4 (16^8 + .. + 16^5) + 8 (16^4 + .. + 16)
        long sum = 4 * (1L << 36) + 4 * ((1L << 32) + (1L << 28) + (1L << 24) + (1L << 20))
                + 8 * ((1L << 16) + (1L << 12) + (1L << 8) + 16);
        check.same("by 1 of 16, the short bites first", x.hours(2, 15, 15), 1000 * sum);
        check.same("cut: 52.26..", x.hours(2, 0, 0), 52266);
    }

    private void orders() {
        check.says(25, "the order: of the least MEAN the first, number by number (BLOWS: HOLLOWS; BITES: LINES).");
        // Hollows of 4 and of 2 with c 1: 4 by 2 and 2 by 1 are alike
        HollowPunches x = Texts.of(FULL + "cut 1 1 2 2;cut 4 1 2 1;" + FULL + "cut 1 1 2 1;cut 4 1 2 2;");
        check.same("4 squares are number 0", x.order(0, 1, 0, 0), 0);
        check.same("then number 1", x.order(0, 1, 0, 1), 1);
        check.same("2 squares are number 2", x.order(1, 1, 0, 0), 2);
        check.same("then number 3", x.order(1, 1, 0, 1), 3);
        HollowPunches bites = Texts.of(FULL + "cut 0 0 8 1;cut 0 7 8 1;cut 0 2 2 1;cut 6 2 2 1;cut 3 6 1 2;");
        int[] due = {102, 110, 127, 100, 107};
        for (int k = 0; k < 5; k++) {
            check.same("bites, act " + k, bites.order(0, 0, 15, k), due[k]);
        }
        HollowPunches o = Texts.of("letter;");
        for (int k = 0; k < 8; k++) {
            check.same("all alike: by lines", o.order(0, 0, 7, k), 100 + k);
        }
    }

    private void without() {
        check.says(25, "In a row of ACTS one of MINUTES t that fails with f of 16 stands the sooner the less t by f "
                + "is (f 0: last).");
        // Hollows of 3, 4, 1 and 9 squares: with c 0 fails of 0, 1, 0, 2
        HollowPunches x = Texts.of(FULL + "cut 1 1 3 1;cut 5 1 2 2;cut 1 3 1 1;cut 3 4 3 3;");
        int[] cs = {0, 1, 14};
        // 4 by 1, 9 by 2, then 3 and 1 by 0; 1 by 1, 4 by 2, 3 by 1 and 9 by 3; 1 by 14, 3 by 14, 4 by 15, 9 by 15
        int[][] due = {{1, 3, 0, 2}, {2, 1, 0, 3}, {2, 0, 1, 3}};
        for (int i = 0; i < 3; i++) {
            for (int k = 0; k < 4; k++) {
                check.same("c " + cs[i] + ", act " + k, x.order(0, cs[i], 0, k), due[i][k]);
            }
        }
        HollowPunches y = Texts.of(FULL + "cut 0 1 5 1;cut 0 3 1 1;cut 0 5 3 1;");
        int[] slips = {103, 105, 101};
        int[] none = {101, 103, 105};
        for (int k = 0; k < 3; k++) {
            check.same("s 1: the shorter first", y.order(0, 0, 1, k), slips[k]);
            check.same("s 0: by lines", y.order(0, 0, 0, k), none[k]);
        }
    }

    private void eleven() {
        check.says(24, "11 ACTS at most: NONE with more.");
        String ten = NINE + "cut 0 0 1 1;";
        HollowPunches x = Texts.of(ten + "cut 7 7 1 1;");
        check.same("eleven, no chance", x.hours(0, 0, 0), 11000);
        check.same("eleven by 1 of 16", x.hours(0, 15, 15), 1000L * (((1L << 48) - 16) / 15));
        check.same("the eleventh", x.order(0, 15, 15, 10), 115);
        check.same("no twelfth", x.order(0, 15, 15, 11), NONE);
        HollowPunches twelve = Texts.of(ten + "cut 7 7 1 1;cut 7 0 1 1;");
        check.same("twelve", twelve.hours(0, 0, 0), NONE);
        for (int k = 0; k < 12; k++) {
            check.same("twelve, act " + k, twelve.order(0, 0, 0, k), NONE);
        }
        check.illegal("twelve, and c", () -> twelve.hours(0, 16, 0));
        check.illegal("twelve, and s", () -> twelve.order(0, 0, -1, 0));
        HollowPunches blows = Texts.of(NINE + "cut 2 6 1 1;cut 4 6 1 1;" + NINE);
        check.same("eleven blows", blows.hours(0, 0, 0), 11000);
        HollowPunches next = Texts.of(ten + "cut 7 7 1 1;cut 7 0 1 1;letter;");
        check.same("of a letter of twelve", next.hours(0, 0, 0), NONE);
        check.same("of the next letter", next.hours(1, 0, 0), 64000);
        check.same("of the next letter", next.order(1, 0, 0, 7), 107);
        check.same("of the letter of twelve again", next.order(0, 0, 0, 7), NONE);
        HollowPunches more = Texts.of(NINE + "cut 2 6 1 1;cut 4 6 1 1;cut 6 6 1 1;");
        check.same("twelve blows", more.hours(0, 0, 0), NONE);
        HollowPunches bites = Texts.of("letter;bar 0 0 1 1;bar 1 1 1 1;bar 2 2 1 1;bar 3 3 1 1;bar 4 4 1 1;bar 5 5 1 1;"
                + "bar 6 6 1 1;bar 7 7 1 1;");
        check.same("fourteen bites", bites.hours(0, 0, 0), NONE);
        check.same("fourteen bites", bites.order(0, 0, 0, 13), NONE);
    }

    private void hoursAnswers() {
        check.says(24, "MEAN of a LETTER; NONE.");
        HollowPunches x = Texts.of(O);
        check.same("a letter", x.hours(0, 0, 0), 52266);
        for (int letter : new int[] {-1, 1, LOW, HIGH}) {
            check.noElement("letter " + letter, () -> x.hours(letter, 0, 0));
            check.noElement("letter " + letter + ", and c", () -> x.hours(letter, 16, 0));
        }
        check.says(24, "IllegalArgumentException: c, s.");
        for (int wrong : new int[] {-1, 16, LOW, HIGH}) {
            check.illegal("c " + wrong, () -> x.hours(0, wrong, 0));
            check.illegal("s " + wrong, () -> x.hours(0, 0, wrong));
        }
    }

    private void orderAnswers() {
        check.says(25, "The k-th ACT in that order: a HOLLOW, or 100 and the LINE; NONE: none such, or more than 11.");
        HollowPunches x = Texts.of("letter;" + O);
        check.same("the first: its hollow", x.order(1, 0, 0, 0), 0);
        check.same("then 100 and the line", x.order(1, 0, 0, 1), 104);
        check.same("the last", x.order(1, 0, 0, 8), 111);
        for (int k : new int[] {-1, 9, 11, LOW, HIGH}) {
            check.same("none such", x.order(1, 0, 0, k), NONE);
        }
        check.same("no acts", Texts.of(FULL).order(0, 0, 0, 0), NONE);
        HollowPunches below = Texts.of(FULL + "cut 7 6 1 2;");
        check.same("the highest line", below.order(0, 0, 0, 0), 131);
        for (int letter : new int[] {-1, 2, LOW, HIGH}) {
            check.noElement("letter " + letter, () -> x.order(letter, 0, 0, 0));
            check.noElement("letter " + letter + ", and all", () -> x.order(letter, 16, -1, -1));
        }
    }
}
