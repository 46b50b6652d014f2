/** What the tests of boundary cases share. */
abstract class Boundaries {
    static final int NONE = HollowPunches.NONE;
    static final int LOW = Integer.MIN_VALUE;
    static final int HIGH = Integer.MAX_VALUE;

    static final String FULL = "letter;bar 0 0 8 8;";
    static final String O = "letter;ring 0 0 4 4;";
    static final String GREAT_RING = "letter;ring 0 0 8 8;";
    static final String TEN_LETTERS = Texts.times(10, "letter;");
    /** Hollows of one square each, nine and eighteen of them. */
    static final String NINE = FULL + "cut 1 1 1 1;cut 3 1 1 1;cut 5 1 1 1;cut 1 3 1 1;cut 3 3 1 1;cut 5 3 1 1;"
            + "cut 1 5 1 1;cut 3 5 1 1;cut 5 5 1 1;";
    static final String EIGHTEEN = NINE + "cut 2 2 1 1;cut 4 2 1 1;cut 6 2 1 1;cut 2 4 1 1;cut 4 4 1 1;cut 6 4 1 1;"
            + "cut 2 6 1 1;cut 4 6 1 1;cut 6 6 1 1;";
    /** Fifteen hollows of one square, and a sixteenth of two. */
    static final String LAST_OF_TWO = EIGHTEEN + "bar 5 5 1 1;bar 4 6 1 1;cut 5 6 1 1;";

    final DocCheck check;

    Boundaries(DocCheck check) {
        this.check = check;
    }

    abstract void run();

    /** A sheet of one letter or more, and a new punch of the first. */
    static HollowPunches begun(String text) {
        HollowPunches x = Texts.of(text);
        x.begin(0);
        return x;
    }
}
