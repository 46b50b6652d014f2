import java.util.Arrays;
import java.util.NoSuchElementException;

/** Letters cut as punches: their hollows, counterpunches, bites, acts, colour and prints. */
public final class HollowPunches {
    public static final int NONE = -1;

    private static final int TAPE_BYTES = 500;
    private static final int FEED_BYTES = 20;
    private static final int MOST_LETTERS = 10;
    private static final int MOST_WORDS = 6;
    private static final int WORD_LETTERS = 8;
    private static final int MOST_CLAUSES = 60;
    private static final int MOST_HOLLOWS = 16;
    private static final int MOST_ACTS = 40;
    private static final int MOST_PRINTS = 8;
    private static final int MOST_SIZE = 9;
    private static final int MOST_SPREAD = 16;
    private static final int MOST_APART = 64;
    private static final int MOST_ROOM = 9765624;
    private static final int MOST_COLOUR = 99999;
    private static final int USUAL_SPREAD = 4;
    private static final int FILE_LINES = 32;
    private static final int TURNS = 8;

    private final Tape tape = new Tape();
    private final Sheet current = new Sheet();
    private int faultPlace = NONE;
    private final FileCover cover = new FileCover();
    private final Counterpunches counterpunches = new Counterpunches();
    private final Cutting cutting = new Cutting();
    private final Setting setting = new Setting();
    private final PrintGroups groups = new PrintGroups();
    private final Bench bench = new Bench();
    private final Bench[] images = {new Bench(), new Bench(), new Bench()};
    private int imageCount = 0;

    public HollowPunches() {
        current.wipe();
        bench.wipe();
        counterpunches.lay(current);
        setting.lay(current);
    }

    public int feed(int a, int b, int c, int d, int e) {
        if (tape.bytes + FEED_BYTES > TAPE_BYTES) {
            return NONE;
        }
        tape.putNumber(a);
        tape.putNumber(b);
        tape.putNumber(c);
        tape.putNumber(d);
        tape.putNumber(e);
        return tape.bytes;
    }

    public int sheet(int n) throws IllegalArgumentException {
        needRange(n, 0, tape.bytes);
        int kind = tape.readFirst(n);
        faultPlace = tape.place;
        if (kind != 0) {
            return kind - 10;
        }
        current.copyOf(tape.draft);
        current.findHollows();
        counterpunches.lay(current);
        setting.lay(current);
        bench.wipe();
        imageCount = 0;
        return current.letters;
    }

    public int fault() {
        return faultPlace;
    }

    public int told(int what) throws IllegalArgumentException {
        needRange(what, 0, 2);
        if (what == 0) {
            return current.letters;
        }
        return what == 1 ? current.words : current.hollows;
    }

    public long squares(int letter, int what) throws NoSuchElementException, IllegalArgumentException {
        needLetter(letter);
        needRange(what, 0, 2);
        long ink = current.ink[letter];
        if (what == 0) {
            return ink;
        }
        return what == 1 ? Grid.reached(ink) : Grid.hidden(ink);
    }

    public int letter(int letter, int what) throws NoSuchElementException, IllegalArgumentException {
        needLetter(letter);
        needRange(what, 0, 4);
        long ink = current.ink[letter];
        switch (what) {
            case 0:
                return Long.bitCount(ink);
            case 1:
                return Long.bitCount(Grid.beside(ink));
            case 2:
                return Grid.broad(ink);
            case 3:
                return current.firstHollowOf(letter);
            default:
                return current.hollowsOf(letter);
        }
    }

    public long hollow(int hollow) throws IndexOutOfBoundsException {
        needHollow(hollow);
        return current.hollow[hollow];
    }

    public long shape(long squares) {
        return Grid.toCorner(squares);
    }

    public int apart(int hollow, int other, boolean mirrors) throws IndexOutOfBoundsException {
        needHollow(hollow);
        needHollow(other);
        return counterpunches.apartOf(hollow, other, mirrors);
    }

    public int punches(int t, boolean mirrors, int what) throws IllegalArgumentException {
        needRange(t, 0, MOST_APART);
        needRange(what, 0, 1);
        int set = counterpunches.leastSet(t, mirrors);
        return what == 0 ? Integer.bitCount(set) : set;
    }

    public int served(int hollow, int t, boolean mirrors)
            throws IndexOutOfBoundsException, IllegalArgumentException {
        needHollow(hollow);
        needRange(t, 0, MOST_APART);
        return counterpunches.serverOf(hollow, t, mirrors);
    }

    public int bites(int letter, int what) throws NoSuchElementException, IllegalArgumentException {
        needLetter(letter);
        needRange(what, 0, 1);
        // Row lines and column lines make a graph of two sides, in which the PROOF is as many as the BITES.
        return Long.bitCount(linesOf(letter));
    }

    public long lines(int letter) throws NoSuchElementException {
        needLetter(letter);
        return linesOf(letter);
    }

    public void begin(int letter) throws NoSuchElementException {
        needLetter(letter);
        bench.takePunch(letter);
    }

    public int blow(int hollow) throws IndexOutOfBoundsException {
        needHollow(hollow);
        if (!hasPunch()) {
            return -1;
        }
        if (current.owner[hollow] != bench.punchLetter) {
            return -2;
        }
        return bench.strike(current.hollow[hollow]);
    }

    public int file(int side, int line, int n) throws IllegalArgumentException {
        needFile(side, line, n);
        if (!hasPunch()) {
            return -1;
        }
        return bench.take(Grid.filed(side, line, n));
    }

    public long steel() {
        return hasPunch() ? ~bench.gone : 0L;
    }

    public int punch(int what) throws IllegalArgumentException {
        needRange(what, 0, 2);
        if (!hasPunch()) {
            return NONE;
        }
        long ink = current.ink[bench.punchLetter];
        if (what == 0) {
            return asNumber((bench.gone & ink) == 0);
        }
        return asNumber(what == 1 ? bench.gone == ~ink : bench.burst);
    }

    public int addBlow(int hollow) throws IndexOutOfBoundsException {
        needHollow(hollow);
        return bench.addAct(hollow, 0L);
    }

    public int addFile(int side, int line, int n) throws IllegalArgumentException {
        needFile(side, line, n);
        return bench.addAct(NONE, Grid.filed(side, line, n));
    }

    public int clear() {
        int acts = bench.planActs;
        bench.planActs = 0;
        return acts;
    }

    public int judge(int letter, int what) throws NoSuchElementException, IllegalArgumentException {
        needLetter(letter);
        needRange(what, 0, 1);
        if (what == 0) {
            return bench.firstSpoiling(current, letter);
        }
        return asNumber(bench.goneBehind(current, letter, bench.planActs) == ~current.ink[letter]);
    }

    public long hours(int letter, int c, int s) throws NoSuchElementException, IllegalArgumentException {
        layCutting(letter, c, s);
        return cutting.mean();
    }

    public int order(int letter, int c, int s, int k) throws NoSuchElementException, IllegalArgumentException {
        layCutting(letter, c, s);
        return cutting.actAt(k);
    }

    public int black(int letter, int size) throws NoSuchElementException, IllegalArgumentException {
        needLetter(letter);
        needRange(size, 1, MOST_SIZE);
        return setting.blackOf(letter, current.spread[size]);
    }

    public int colour(int word, int size, int room) throws IndexOutOfBoundsException, IllegalArgumentException {
        if (word < 0 || word >= current.words) {
            throw new IndexOutOfBoundsException("no such word");
        }
        needRange(size, 1, MOST_SIZE);
        needRange(room, 0, MOST_ROOM);
        return setting.colourOf(word, current.spread[size], room);
    }

    public int uneven(int size, int room) throws IllegalArgumentException {
        needRange(size, 1, MOST_SIZE);
        needRange(room, 0, MOST_ROOM);
        return setting.unevenOf(current.spread[size], room);
    }

    public int even(int size) throws IllegalArgumentException {
        needRange(size, 1, MOST_SIZE);
        return setting.evenRoom(current.spread[size]);
    }

    public int press(int colour) throws IllegalArgumentException {
        needRange(colour, 0, MOST_COLOUR);
        return setting.spreadNearest(colour);
    }

    public int print(long squares) throws IllegalArgumentException {
        if (squares == 0) {
            throw new IllegalArgumentException("no squares");
        }
        return bench.addPrint(squares);
    }

    public boolean kin(int print, int other, int w, boolean mirrors)
            throws IndexOutOfBoundsException, IllegalArgumentException {
        needPrint(print);
        needPrint(other);
        needRange(w, 0, MOST_APART);
        groups.lay(bench, w, mirrors);
        return groups.areKin(print, other);
    }

    public int partings(int w, boolean mirrors, int what) throws IllegalArgumentException {
        needRange(w, 0, MOST_APART);
        needRange(what, 0, 2);
        groups.lay(bench, w, mirrors);
        if (what == 2) {
            return groups.alwaysAlone();
        }
        return what == 0 ? groups.ways() : groups.fewest();
    }

    public boolean can() {
        return hasPunch() && bench.canBeDone(current);
    }

    public int left() {
        if (!hasPunch() || !bench.canBeDone(current)) {
            return NONE;
        }
        long ink = current.ink[bench.punchLetter];
        cover.lay(ink);
        return bench.hollowsLeft(current) + cover.fewest(Grid.reached(ink) & ~bench.gone);
    }

    public long bars(int letter, int c, int s) throws NoSuchElementException, IllegalArgumentException {
        layCutting(letter, c, s);
        return cutting.begun();
    }

    public int nearest(long squares, boolean mirrors, int what) throws IllegalArgumentException {
        if (squares == 0) {
            throw new IllegalArgumentException("no squares");
        }
        needRange(what, 0, 1);
        int hollow = counterpunches.nearestTo(squares, mirrors);
        return what == 0 || hollow == NONE ? hollow : counterpunches.apartFrom(hollow, squares, mirrors);
    }

    public int originals(boolean mirrors, int what) throws IllegalArgumentException {
        needRange(what, 0, 1);
        int set = counterpunches.originalLetters(current, mirrors);
        return what == 0 ? Integer.bitCount(set) : set;
    }

    public int fount(int sizes, int t, boolean mirrors) throws IllegalArgumentException {
        needRange(sizes, 1, 511);
        needRange(t, 0, 99);
        return Setting.sizeGroups(sizes, t) * Integer.bitCount(counterpunches.leastSet(0, mirrors));
    }

    public int image() {
        if (imageCount < 0 || imageCount >= images.length) {
            return -1;
        }
        images[imageCount].copyOf(bench);
        imageCount++;
        return imageCount;
    }

    public int restore() {
        if (imageCount <= 0 || imageCount > images.length) {
            return -1;
        }
        imageCount--;
        bench.copyOf(images[imageCount]);
        return imageCount;
    }

    public int count(int what) {
        switch (what) {
            case 0:
                return bench.planActs;
            case 1:
                return bench.printCount;
            case 2:
                return imageCount;
            case 3:
                return tape.bytes;
            default:
                return NONE;
        }
    }

    private void needLetter(int letter) {
        if (letter < 0 || letter >= current.letters) {
            throw new NoSuchElementException("no such letter");
        }
    }

    private void needHollow(int hollow) {
        if (hollow < 0 || hollow >= current.hollows) {
            throw new IndexOutOfBoundsException("no such hollow");
        }
    }

    private void needPrint(int print) {
        if (print < 0 || print >= bench.printCount) {
            throw new IndexOutOfBoundsException("no such print");
        }
    }

    private static void needRange(int number, int least, int most) {
        if (number < least || number > most) {
            throw new IllegalArgumentException("a number out of its range");
        }
    }

    private static void needFile(int side, int line, int n) {
        needRange(side, 0, 3);
        needRange(line, 0, 7);
        needRange(n, 1, 8);
    }

    private static int asNumber(boolean holds) {
        return holds ? 1 : 0;
    }

    private boolean hasPunch() {
        return bench.punchLetter >= 0 && bench.punchLetter < current.letters;
    }

    /** The fewest BITES of a LETTER, found once for each SHEET. */
    private long linesOf(int letter) {
        if (letter < 0 || letter >= current.letters) {
            return 0L;
        }
        long known = current.fileLines[letter];
        if (known != NONE) {
            return known;
        }
        long ink = current.ink[letter];
        cover.lay(ink);
        long found = cover.leastSet(Grid.reached(ink));
        current.fileLines[letter] = found;
        return found;
    }

    private void layCutting(int letter, int c, int s) {
        needLetter(letter);
        needRange(c, 0, 15);
        needRange(s, 0, 15);
        long set = linesOf(letter);
        cover.lay(current.ink[letter]);
        cutting.lay(current, letter, c);
        cutting.layBites(cover, set, s);
    }

    /** Squares of the eight by eight grid as bits. */
    private static final class Grid {
        private static final long LEFT_COLUMN = 0x0101010101010101L;
        private static final long RIGHT_COLUMN = 0x8080808080808080L;
        private static final long TOP_ROW = 0xFFL;
        private static final long BOTTOM_ROW = 0xFFL << 56;

        static long block(int x, int y, int w, int h) {
            long row = w <= 0 ? 0L : ((1L << w) - 1) << x;
            long squares = 0L;
            for (int down = 0; down < h; down++) {
                squares |= row << 8 * (y + down);
            }
            return squares;
        }

        static long rim(int x, int y, int w, int h) {
            return block(x, y, w, h) & ~block(x + 1, y + 1, w - 2, h - 2);
        }

        /** What a file takes from a side on a line. */
        static long filed(int side, int line, int n) {
            switch (side) {
                case 0:
                    return block(0, line, n, 1);
                case 1:
                    return block(8 - n, line, n, 1);
                case 2:
                    return block(line, 0, 1, n);
                default:
                    return block(line, 8 - n, 1, n);
            }
        }

        /** All squares moved by one away from a side; what would leave the grid is lost. */
        static long moved(long squares, int side) {
            switch (side) {
                case 0:
                    return (squares & ~RIGHT_COLUMN) << 1;
                case 1:
                    return (squares & ~LEFT_COLUMN) >>> 1;
                case 2:
                    return squares << 8;
                default:
                    return squares >>> 8;
            }
        }

        private static long rimOf(int side) {
            switch (side) {
                case 0:
                    return LEFT_COLUMN;
                case 1:
                    return RIGHT_COLUMN;
                case 2:
                    return TOP_ROW;
                default:
                    return BOTTOM_ROW;
            }
        }

        static long beside(long squares) {
            long around = 0L;
            for (int side = 0; side < 4; side++) {
                around |= moved(squares, side);
            }
            return around & ~squares;
        }

        static long reachedFrom(long ink, int side) {
            long taken = rimOf(side) & ~ink;
            for (int step = 0; step < 7; step++) {
                taken |= moved(taken, side) & ~ink;
            }
            return taken;
        }

        static long reached(long ink) {
            long taken = 0L;
            for (int side = 0; side < 4; side++) {
                taken |= reachedFrom(ink, side);
            }
            return taken;
        }

        static long hidden(long ink) {
            return ~ink & ~reached(ink);
        }

        static int broad(long ink) {
            int first = 8;
            int last = -1;
            for (int x = 0; x < 8; x++) {
                if ((ink & LEFT_COLUMN << x) != 0) {
                    first = Math.min(first, x);
                    last = x;
                }
            }
            return last < 0 ? 0 : last - first + 1;
        }

        static long toCorner(long squares) {
            long shape = squares;
            for (int step = 0; step < 7 && (shape & TOP_ROW) == 0; step++) {
                shape >>>= 8;
            }
            for (int step = 0; step < 7 && (shape & LEFT_COLUMN) == 0; step++) {
                shape >>>= 1;
            }
            return shape;
        }

        /** Left for right; by halves, pairs and single columns, since a loop over squares would be dear. */
        static long mirrored(long squares) {
            long m = (squares & 0x0F0F0F0F0F0F0F0FL) << 4 | squares >>> 4 & 0x0F0F0F0F0F0F0F0FL;
            m = (m & 0x3333333333333333L) << 2 | m >>> 2 & 0x3333333333333333L;
            return (m & 0x5555555555555555L) << 1 | m >>> 1 & 0x5555555555555555L;
        }

        /** X for Y; blocks of four, two and one change places, for the same reason. */
        private static long crossed(long squares) {
            long swap = (squares ^ squares << 28) & 0x0F0F0F0F00000000L;
            long m = squares ^ swap ^ swap >>> 28;
            swap = (m ^ m << 14) & 0x3333000033330000L;
            m = m ^ swap ^ swap >>> 14;
            swap = (m ^ m << 7) & 0x5500550055005500L;
            return m ^ swap ^ swap >>> 7;
        }

        static long quarterTurned(long squares) {
            return mirrored(crossed(squares));
        }

        static long halfTurned(long squares) {
            return quarterTurned(quarterTurned(squares));
        }

        /** The SHAPES of four quarter turns, then those of the mirror image, into row number at. */
        static void turnsInto(long squares, long[] row, int at) {
            if (at < 0 || TURNS * at + TURNS > row.length) {
                return;
            }
            long plain = squares;
            long mirror = mirrored(squares);
            for (int turn = 0; turn < 4; turn++) {
                row[TURNS * at + turn] = toCorner(plain);
                row[TURNS * at + 4 + turn] = toCorner(mirror);
                plain = quarterTurned(plain);
                mirror = quarterTurned(mirror);
            }
        }

        /** How far the one whose turns are row number at is APART from a SHAPE. */
        static int apartBy(long[] row, int at, long shape, boolean mirrors) {
            int least = MOST_APART;
            int turns = mirrors ? TURNS : 4;
            for (int turn = 0; turn < turns; turn++) {
                int place = TURNS * at + turn;
                if (place >= 0 && place < row.length) {
                    least = Math.min(least, Long.bitCount(row[place] ^ shape));
                }
            }
            return least;
        }
    }

    /** What a text has told: LETTERS, WORDS and spreads, and the HOLLOWS of the LETTERS. */
    private static final class Sheet {
        private final long[] ink = new long[MOST_LETTERS];
        private final long[] fileLines = new long[MOST_LETTERS];
        private final int[] wordLetters = new int[MOST_WORDS * WORD_LETTERS];
        private final int[] wordLengths = new int[MOST_WORDS];
        private final int[] spread = new int[MOST_SIZE + 1];
        private final long[] hollow = new long[MOST_HOLLOWS];
        private final int[] owner = new int[MOST_HOLLOWS];
        private int letters;
        private int words;
        private int hollows;

        void wipe() {
            letters = 0;
            words = 0;
            hollows = 0;
            Arrays.fill(ink, 0L);
            Arrays.fill(fileLines, NONE);
            Arrays.fill(wordLengths, 0);
            Arrays.fill(spread, USUAL_SPREAD);
        }

        /** Takes over what a text tells; HOLLOWS and lines are found anew. */
        void copyOf(Sheet other) {
            wipe();
            letters = other.letters;
            words = other.words;
            System.arraycopy(other.ink, 0, ink, 0, MOST_LETTERS);
            System.arraycopy(other.wordLetters, 0, wordLetters, 0, MOST_WORDS * WORD_LETTERS);
            System.arraycopy(other.wordLengths, 0, wordLengths, 0, MOST_WORDS);
            System.arraycopy(other.spread, 0, spread, 0, MOST_SIZE + 1);
        }

        void addLetter(long squares) {
            if (letters < MOST_LETTERS) {
                ink[letters] = squares;
                letters++;
            }
        }

        void setLatestInk(long squares) {
            if (letters > 0 && letters <= MOST_LETTERS) {
                ink[letters - 1] = squares;
            }
        }

        long inkOf(int letter) {
            return letter >= 0 && letter < letters ? ink[letter] : 0L;
        }

        long latestInk() {
            return inkOf(letters - 1);
        }

        int wordLetter(int word, int k) {
            if (word < 0 || word >= words || k < 0 || k >= WORD_LETTERS) {
                return 0;
            }
            return wordLetters[WORD_LETTERS * word + k];
        }

        void findHollows() {
            hollows = 0;
            for (int letter = 0; letter < letters; letter++) {
                long hidden = Grid.hidden(ink[letter]);
                for (int found = 0; found < 64 && hidden != 0 && hollows < MOST_HOLLOWS; found++) {
                    long part = grown(hidden & -hidden, hidden);
                    hollow[hollows] = part;
                    owner[hollows] = letter;
                    hollows++;
                    hidden &= ~part;
                }
            }
        }

        private static long grown(long seed, long within) {
            long part = seed;
            for (int step = 0; step < 64; step++) {
                long more = part | Grid.beside(part) & within;
                if (more == part) {
                    break;
                }
                part = more;
            }
            return part;
        }

        int firstHollowOf(int letter) {
            for (int h = 0; h < hollows; h++) {
                if (owner[h] == letter) {
                    return h;
                }
            }
            return NONE;
        }

        int hollowsOf(int letter) {
            int many = 0;
            for (int h = 0; h < hollows; h++) {
                if (owner[h] == letter) {
                    many++;
                }
            }
            return many;
        }
    }

    /** The TAPE, and what reads its text into a draft; at the first FAULT it stops. */
    private static final class Tape {
        private static final int STRANGE = 1;
        private static final int NO_SUCH_NUMBER = 2;
        private static final int TOO_MANY = 3;
        private static final int LETTER = 0;
        private static final int TURNED = 1;
        private static final int MIRROR = 2;
        private static final int BAR = 3;
        private static final int RING = 4;
        private static final int CUT = 5;
        private static final int WORD = 6;
        private static final int SPREAD = 7;
        /** Above every number that may stand in a text, and far from overflow. */
        private static final int HUGE = 1000;

        private final int[] text = new int[TAPE_BYTES];
        private final Sheet draft = new Sheet();
        private int bytes = 0;
        private int length = 0;
        private int at = 0;
        private int fault = 0;
        private int place = NONE;

        void putNumber(int number) {
            for (int shift = 24; shift >= 0 && bytes < TAPE_BYTES; shift -= 8) {
                text[bytes] = number >>> shift & 255;
                bytes++;
            }
        }

        /** Reads n bytes, and the TAPE is empty: the kind of the FAULT, 0 without. */
        int readFirst(int n) {
            length = Math.min(n, TAPE_BYTES);
            bytes = 0;
            at = 0;
            fault = 0;
            place = NONE;
            draft.wipe();
            skipBlanks();
            for (int clauses = 0; clauses < TAPE_BYTES && at < length && fault == 0; clauses++) {
                readClause(clauses);
                skipBlanks();
            }
            return fault;
        }

        private void fail(int kind, int where) {
            if (fault == 0) {
                fault = kind;
                place = where;
            }
        }

        /** The byte that stands there; none behind the end. */
        private int here() {
            return at >= 0 && at < length ? text[at] : NONE;
        }

        private boolean digitStands() {
            return here() >= '0' && here() <= '9';
        }

        private void skipBlanks() {
            for (int step = 0; step < TAPE_BYTES && here() == ' '; step++) {
                at++;
            }
        }

        private void readClause(int clauses) {
            int start = at;
            int keyword = readKeyword();
            boolean draws = keyword == BAR || keyword == RING || keyword == CUT;
            if (keyword == NONE || draws && draft.letters == 0) {
                fail(STRANGE, start);
            } else if (clauses >= MOST_CLAUSES || isOneTooMany(keyword)) {
                fail(TOO_MANY, start);
            } else {
                readRest(keyword);
                readSemicolon();
            }
        }

        private void readRest(int keyword) {
            switch (keyword) {
                case LETTER:
                    draft.addLetter(0L);
                    break;
                case TURNED:
                case MIRROR:
                    readCopy(keyword);
                    break;
                case WORD:
                    readLettersOfWord();
                    break;
                case SPREAD:
                    readSpread();
                    break;
                default:
                    readDrawing(keyword);
            }
        }

        private boolean isOneTooMany(int keyword) {
            if (keyword == WORD) {
                return draft.words >= MOST_WORDS;
            }
            boolean adds = keyword == LETTER || keyword == TURNED || keyword == MIRROR;
            return adds && draft.letters >= MOST_LETTERS;
        }

        private int readKeyword() {
            int start = at;
            for (int step = 0; step < TAPE_BYTES && here() >= 'a' && here() <= 'z'; step++) {
                at++;
            }
            if (stands("letter", start)) {
                return LETTER;
            }
            if (stands("turned", start)) {
                return TURNED;
            }
            if (stands("mirror", start)) {
                return MIRROR;
            }
            if (stands("bar", start)) {
                return BAR;
            }
            if (stands("ring", start)) {
                return RING;
            }
            if (stands("cut", start)) {
                return CUT;
            }
            if (stands("word", start)) {
                return WORD;
            }
            return stands("spread", start) ? SPREAD : NONE;
        }

        /** Whether just this word stands from start up to where the reader is. */
        private boolean stands(String word, int start) {
            if (start < 0 || at - start != word.length()) {
                return false;
            }
            for (int k = 0; k < word.length() && start + k < length; k++) {
                if (text[start + k] != word.charAt(k)) {
                    return false;
                }
            }
            return true;
        }

        private void readDrawing(int keyword) {
            int x = readNumber(0, 7);
            int y = readNumber(0, 7);
            int w = readNumber(1, 8 - x);
            int h = readNumber(1, 8 - y);
            if (fault != 0) {
                return;
            }
            long ink = draft.latestInk();
            if (keyword == BAR) {
                draft.setLatestInk(ink | Grid.block(x, y, w, h));
            } else if (keyword == RING) {
                draft.setLatestInk(ink | Grid.rim(x, y, w, h));
            } else {
                draft.setLatestInk(ink & ~Grid.block(x, y, w, h));
            }
        }

        private void readCopy(int keyword) {
            int source = readNumber(0, draft.letters - 1);
            if (fault == 0) {
                long ink = draft.inkOf(source);
                draft.addLetter(keyword == TURNED ? Grid.halfTurned(ink) : Grid.mirrored(ink));
            }
        }

        private void readSpread() {
            int size = readNumber(1, MOST_SIZE);
            int spread = readNumber(0, MOST_SPREAD);
            if (fault == 0 && size >= 1 && size < draft.spread.length) {
                draft.spread[size] = spread;
            }
        }

        private void readLettersOfWord() {
            skipBlanks();
            int start = at;
            int many = 0;
            boolean right = draft.words < MOST_WORDS;
            for (int step = 0; step < TAPE_BYTES && digitStands(); step++) {
                int letter = here() - '0';
                right = right && many < WORD_LETTERS && letter < draft.letters;
                if (right) {
                    draft.wordLetters[WORD_LETTERS * draft.words + many] = letter;
                    many++;
                }
                at++;
            }
            if (at == start) {
                fail(STRANGE, start);
            } else if (!right) {
                fail(NO_SUCH_NUMBER, start);
            } else {
                draft.wordLengths[draft.words] = many;
                draft.words++;
            }
        }

        private int readNumber(int least, int most) {
            if (fault != 0) {
                return least;
            }
            skipBlanks();
            int start = at;
            int value = 0;
            for (int step = 0; step < TAPE_BYTES && digitStands(); step++) {
                value = Math.min(10 * value + here() - '0', HUGE);
                at++;
            }
            if (at == start) {
                fail(STRANGE, start);
            } else if (value < least || value > most) {
                fail(NO_SUCH_NUMBER, start);
            }
            return value;
        }

        private void readSemicolon() {
            if (fault != 0) {
                return;
            }
            skipBlanks();
            if (here() == ';') {
                at++;
            } else {
                fail(STRANGE, at);
            }
        }
    }

    /** The lines along which a file bites at one LETTER, and the fewest of them that take some squares. */
    private static final class FileCover {
        private static final int HALF = FILE_LINES / 2;
        private static final int IMPOSSIBLE = 1000;

        private final long[] takes = new long[FILE_LINES];
        private final int[] crossing = new int[HALF];
        private final int[] mate = new int[HALF];
        private final int[] seen = new int[HALF];

        void lay(long ink) {
            for (int side = 0; side < 4; side++) {
                long reached = Grid.reachedFrom(ink, side);
                for (int i = 0; i < 8; i++) {
                    long whole = side < 2 ? Grid.TOP_ROW << 8 * i : Grid.LEFT_COLUMN << i;
                    boolean asOne = (side & 1) == 1 && (whole & ink) == 0;
                    takes[8 * side + i] = asOne ? 0L : reached & whole;
                }
            }
        }

        long takenBy(int line) {
            return line >= 0 && line < FILE_LINES ? takes[line] : 0L;
        }

        int fewest(long squares) {
            return fewestWithout(squares, 0L);
        }

        /** The highest lines are left out first, wherever as few still do: so the set is the least number. */
        long leastSet(long squares) {
            int few = fewest(squares);
            long without = 0L;
            long set = 0L;
            for (int line = FILE_LINES - 1; line >= 0; line--) {
                boolean idle = (takes[line] & squares) == 0;
                if (idle || fewestWithout(squares, without | 1L << line) == few) {
                    without |= 1L << line;
                } else {
                    set |= 1L << line;
                }
            }
            return set;
        }

        /**
         * A square that only one line takes wants that line; each other square hangs between a row line and
         * a column line, and as many lines are needed there as squares can be chosen that share no line.
         */
        private int fewestWithout(long squares, long without) {
            long byRows = takenByAny(0, without);
            long byColumns = takenByAny(HALF, without);
            if ((squares & ~byRows & ~byColumns) != 0) {
                return IMPOSSIBLE;
            }
            long single = squares & (byRows ^ byColumns);
            long open = squares;
            int wanted = 0;
            for (int line = 0; line < FILE_LINES; line++) {
                if ((without & 1L << line) == 0 && (takes[line] & single) != 0) {
                    wanted++;
                    open &= ~takes[line];
                }
            }
            layCrossings(open);
            return wanted + mostPairs();
        }

        private long takenByAny(int from, long without) {
            long taken = 0L;
            for (int line = from; line >= 0 && line < from + HALF && line < FILE_LINES; line++) {
                if ((without & 1L << line) == 0) {
                    taken |= takes[line];
                }
            }
            return taken;
        }

        /** Lines that are left out cross none here: all their squares were single, and are no longer open. */
        private void layCrossings(long open) {
            for (int row = 0; row < HALF; row++) {
                crossing[row] = 0;
                long along = takes[row] & open;
                for (int column = 0; column < HALF && along != 0; column++) {
                    if ((along & takes[HALF + column]) != 0) {
                        crossing[row] |= 1 << column;
                    }
                }
            }
        }

        private int mostPairs() {
            Arrays.fill(mate, NONE);
            int pairs = 0;
            for (int row = 0; row < HALF; row++) {
                Arrays.fill(seen, 0);
                if (crossing[row] != 0 && findsMate(crossing, mate, seen, row, 0)) {
                    pairs++;
                }
            }
            return pairs;
        }

        private static boolean findsMate(int[] crossing, int[] mate, int[] seen, int row, int depth) {
            if (depth > HALF || row < 0 || row >= HALF) {
                return false;
            }
            for (int column = 0; column < HALF; column++) {
                if ((crossing[row] & 1 << column) == 0 || seen[column] != 0) {
                    continue;
                }
                seen[column] = 1;
                if (mate[column] == NONE || findsMate(crossing, mate, seen, mate[column], depth + 1)) {
                    mate[column] = row;
                    return true;
                }
            }
            return false;
        }
    }

    /** How far squares are APART when turned, and the fewest HOLLOWS that serve all. */
    private static final class Counterpunches {
        private static final int UNKNOWN = -2;

        private final long[] turns = new long[MOST_HOLLOWS * TURNS];
        private final long[] letterTurns = new long[TURNS];
        private final int[] serves = new int[MOST_HOLLOWS];
        private final int[] servesUpTo = new int[MOST_HOLLOWS];
        private final int[] known = new int[2 * (MOST_APART + 1)];
        private int hollows;

        void lay(Sheet sheet) {
            hollows = Math.min(sheet.hollows, MOST_HOLLOWS);
            for (int h = 0; h < hollows; h++) {
                Grid.turnsInto(sheet.hollow[h], turns, h);
            }
            Arrays.fill(known, UNKNOWN);
        }

        int apartOf(int hollow, int other, boolean mirrors) {
            if (other < 0 || other >= hollows) {
                return MOST_APART;
            }
            return Grid.apartBy(turns, hollow, turns[TURNS * other], mirrors);
        }

        int apartFrom(int hollow, long squares, boolean mirrors) {
            return Grid.apartBy(turns, hollow, Grid.toCorner(squares), mirrors);
        }

        int nearestTo(long squares, boolean mirrors) {
            int nearest = NONE;
            int least = MOST_APART + 1;
            for (int h = 0; h < hollows; h++) {
                int apart = apartFrom(h, squares, mirrors);
                if (apart < least) {
                    least = apart;
                    nearest = h;
                }
            }
            return nearest;
        }

        int leastSet(int t, boolean mirrors) {
            int at = 2 * t + (mirrors ? 1 : 0);
            if (at < 0 || at >= known.length) {
                return 0;
            }
            if (known[at] == UNKNOWN) {
                layServing(t, mirrors);
                known[at] = findLeastSet();
            }
            return known[at];
        }

        private void layServing(int t, boolean mirrors) {
            int all = 0;
            for (int h = 0; h < hollows; h++) {
                serves[h] = 0;
                for (int other = 0; other < hollows; other++) {
                    if (apartOf(h, other, mirrors) <= t) {
                        serves[h] |= 1 << other;
                    }
                }
                all |= serves[h];
                servesUpTo[h] = all;
            }
        }

        private int findLeastSet() {
            int all = (1 << hollows) - 1;
            for (int many = 0; many <= hollows; many++) {
                int set = chosen(serves, servesUpTo, hollows - 1, all, many);
                if (set != NONE) {
                    return set;
                }
            }
            return all;
        }

        /** Of HOLLOWS 0 to at the least set of some that serves all that are missing; without at comes first. */
        private static int chosen(int[] serves, int[] upTo, int at, int missing, int some) {
            if (missing == 0) {
                return 0;
            }
            if (at < 0 || at >= MOST_HOLLOWS || some <= 0 || (missing & ~upTo[at]) != 0) {
                return NONE;
            }
            int without = chosen(serves, upTo, at - 1, missing, some);
            if (without != NONE) {
                return without;
            }
            int with = chosen(serves, upTo, at - 1, missing & ~serves[at], some - 1);
            return with == NONE ? NONE : with | 1 << at;
        }

        int serverOf(int hollow, int t, boolean mirrors) {
            int set = leastSet(t, mirrors);
            for (int h = 0; h < hollows; h++) {
                if ((set & 1 << h) != 0 && apartOf(h, hollow, mirrors) <= t) {
                    return h;
                }
            }
            return NONE;
        }

        int originalLetters(Sheet sheet, boolean mirrors) {
            int set = 0;
            for (int letter = 0; letter < sheet.letters; letter++) {
                if (sheet.inkOf(letter) != 0 && !hasLesserTwin(sheet, letter, mirrors)) {
                    set |= 1 << letter;
                }
            }
            return set;
        }

        private boolean hasLesserTwin(Sheet sheet, int letter, boolean mirrors) {
            Grid.turnsInto(sheet.inkOf(letter), letterTurns, 0);
            for (int other = 0; other < letter; other++) {
                long shape = Grid.toCorner(sheet.inkOf(other));
                if (shape != 0 && Grid.apartBy(letterTurns, 0, shape, mirrors) == 0) {
                    return true;
                }
            }
            return false;
        }
    }

    /** The best order in which a LETTER is cut, and what it costs by chances. */
    private static final class Cutting {
        private static final int MOST = 11;
        private static final int FIRST_LINE = 100;

        private final int[] act = new int[MOST];
        private final int[] minutes = new int[MOST];
        private final int[] fails = new int[MOST];
        private int acts;
        private int blows;
        private boolean tooMany;

        void lay(Sheet sheet, int letter, int c) {
            acts = 0;
            tooMany = false;
            for (int h = 0; h < sheet.hollows; h++) {
                if (sheet.owner[h] == letter) {
                    int squares = Long.bitCount(sheet.hollow[h]);
                    add(h, squares, Math.min(15, c + squares / 4), 0);
                }
            }
            blows = acts;
        }

        void layBites(FileCover cover, long lines, int s) {
            for (int line = 0; line < FILE_LINES; line++) {
                if ((lines & 1L << line) != 0) {
                    add(FIRST_LINE + line, Long.bitCount(cover.takenBy(line)), s, blows);
                }
            }
        }

        /** Puts an ACT into its row, which begins at from: behind all that are as good or better. */
        private void add(int number, int time, int failing, int from) {
            if (acts >= MOST) {
                tooMany = true;
                return;
            }
            int at = acts;
            while (at > from && at > 0 && time * fails[at - 1] < minutes[at - 1] * failing) {
                act[at] = act[at - 1];
                minutes[at] = minutes[at - 1];
                fails[at] = fails[at - 1];
                at--;
            }
            act[at] = number;
            minutes[at] = time;
            fails[at] = failing;
            acts++;
        }

        int actAt(int k) {
            return tooMany || k < 0 || k >= acts ? NONE : act[k];
        }

        /** 16 to the power of all ACTS, as the common measure of chances: at most 2 to the 44th. */
        private long whole() {
            return 1L << 4 * acts;
        }

        /** The chance that all go well, by that measure. */
        private long allWell() {
            long well = 1L;
            for (int k = 0; k < acts; k++) {
                well *= 16 - fails[k];
            }
            return Math.max(1L, well);
        }

        /** All MINUTES are 128 at most, as no square is taken more than twice: 1,000 times that fits a long. */
        long mean() {
            if (tooMany) {
                return NONE;
            }
            long ahead = whole();
            long sum = 0L;
            for (int k = 0; k < acts; k++) {
                sum += minutes[k] * ahead;
                ahead = ahead / 16 * (16 - fails[k]);
            }
            return 1000L * sum / allWell();
        }

        long begun() {
            return tooMany ? NONE : 1000L * whole() / allWell();
        }
    }

    /** LETTERS set in WORDS: their BLACK, their COLOUR and the ROOM between them. */
    private static final class Setting {
        private static final int UNKNOWN = -2;
        private static final int MOST_FREE = 6;
        /** No COLOUR is above 24,000, and none that is told above 99,999. */
        private static final int ABOVE_ALL = 1000000;
        private static final int[] POWERS = {1, 5, 25, 125, 625, 3125, 15625, 78125, 390625, 1953125};

        private int letters = 0;
        private int words = 0;
        private final int[] inked = new int[MOST_LETTERS];
        private final int[] edge = new int[MOST_LETTERS];
        private final int[] broad = new int[MOST_LETTERS];
        private final int[] known = new int[MOST_SPREAD + 1];
        private final int[] free = new int[MOST_FREE];
        private final int[] wordBlack = new int[MOST_WORDS];
        private final int[] wordSpace = new int[MOST_WORDS];
        private final int[] wordWider = new int[MOST_WORDS * MOST_FREE];
        private final int[] times = new int[MOST_WORDS * MOST_LETTERS];
        private int best = 0;
        private int bestRoom = 0;

        void lay(Sheet told) {
            letters = told.letters;
            words = told.words;
            for (int letter = 0; letter < letters; letter++) {
                long ink = told.inkOf(letter);
                inked[letter] = Long.bitCount(ink);
                edge[letter] = Long.bitCount(Grid.beside(ink));
                broad[letter] = Grid.broad(ink);
            }
            Arrays.fill(known, UNKNOWN);
            Arrays.fill(times, 0);
            for (int word = 0; word < words; word++) {
                for (int k = 0; k < told.wordLengths[word]; k++) {
                    times[MOST_LETTERS * word + told.wordLetter(word, k)]++;
                }
            }
        }

        int blackOf(int letter, int spread) {
            return letter >= 0 && letter < MOST_LETTERS ? 16 * inked[letter] + spread * edge[letter] : 0;
        }

        private static int colourBy(int black, int space) {
            return space <= 0 ? 0 : 1000 * black / (16 * space);
        }

        private int blackOfWord(int word, int spread) {
            int black = 0;
            for (int letter = 0; letter < letters; letter++) {
                black += times[MOST_LETTERS * word + letter] * blackOf(letter, spread);
            }
            return black;
        }

        private int spaceOfWord(int word, int room) {
            int space = 0;
            for (int letter = 0; letter < letters; letter++) {
                space += times[MOST_LETTERS * word + letter] * (broad[letter] + room / POWERS[letter] % 5);
            }
            return space;
        }

        int colourOf(int word, int spread, int room) {
            return colourBy(blackOfWord(word, spread), spaceOfWord(word, room));
        }

        int unevenOf(int spread, int room) {
            layWords(spread, room);
            return unevenAtLeast(NONE);
        }

        private void layWords(int spread, int room) {
            for (int word = 0; word < words; word++) {
                wordBlack[word] = blackOfWord(word, spread);
                wordSpace[word] = spaceOfWord(word, room);
            }
        }

        /**
         * UNEVEN of the words laid, or, while free LETTERS 0 to at may still be given ROOM, a number that it can't be
         * below then: a word's COLOUR lies between what it is now and what it is with all that ROOM.
         */
        private int unevenAtLeast(int at) {
            int greatest = 0;
            int least = ABOVE_ALL;
            for (int word = 0; word < words; word++) {
                int wider = at >= 0 && at < MOST_FREE ? wordWider[MOST_FREE * word + at] : 0;
                greatest = Math.max(greatest, colourBy(wordBlack[word], wordSpace[word] + wider));
                least = Math.min(least, colourBy(wordBlack[word], wordSpace[word]));
            }
            return words == 0 ? 0 : Math.max(0, greatest - least);
        }

        int evenRoom(int spread) {
            if (spread < 0 || spread >= known.length) {
                return NONE;
            }
            if (known[spread] == UNKNOWN) {
                known[spread] = findEvenRoom(spread);
            }
            return known[spread];
        }

        private int findEvenRoom(int spread) {
            int many = listFree();
            if (many > MOST_FREE) {
                return NONE;
            }
            layWords(spread, 0);
            layWider(many);
            best = ABOVE_ALL;
            bestRoom = 0;
            seekEven(this, many - 1, 0);
            return bestRoom;
        }

        /** Lists the LETTERS that come in WORDS, the first six of them: how many there are. */
        private int listFree() {
            int many = 0;
            for (int letter = 0; letter < letters; letter++) {
                boolean comes = false;
                for (int word = 0; word < words; word++) {
                    comes = comes || times[MOST_LETTERS * word + letter] > 0;
                }
                if (comes && many < MOST_FREE) {
                    free[many] = letter;
                }
                if (comes) {
                    many++;
                }
            }
            return many;
        }

        /** How much wider each word is if free LETTERS 0 to at have all the ROOM that they may. */
        private void layWider(int many) {
            for (int word = 0; word < words; word++) {
                int wider = 0;
                for (int at = 0; at < many && at < MOST_FREE; at++) {
                    wider += 4 * times[MOST_LETTERS * word + free[at]];
                    wordWider[MOST_FREE * word + at] = wider;
                }
            }
        }

        private void widen(int at, int by) {
            for (int word = 0; word < words && at >= 0 && at < MOST_FREE; word++) {
                wordSpace[word] += by * times[MOST_LETTERS * word + free[at]];
            }
        }

        /**
         * Tries all ROOM of free LETTERS 0 to at, the least number first, so that the first of the best is kept; what
         * can't be better than that is passed over.
         */
        private static void seekEven(Setting s, int at, int room) {
            int uneven = s.unevenAtLeast(at);
            if (uneven >= s.best || at >= MOST_FREE) {
                return;
            }
            if (at < 0) {
                s.best = uneven;
                s.bestRoom = room;
                return;
            }
            for (int digit = 0; digit < 5; digit++) {
                seekEven(s, at - 1, room + digit * POWERS[s.free[at]]);
                s.widen(at, 1);
            }
            s.widen(at, -5);
        }

        int spreadNearest(int colour) {
            if (words <= 0) {
                return NONE;
            }
            int best = NONE;
            int least = ABOVE_ALL;
            for (int spread = 0; spread <= MOST_SPREAD; spread++) {
                int sum = 0;
                for (int word = 0; word < words; word++) {
                    sum += colourOf(word, spread, 0);
                }
                int far = Math.abs(sum / words - colour);
                if (far < least) {
                    least = far;
                    best = spread;
                }
            }
            return best;
        }

        /** From the least SIZE on, each group takes all that it can: no other way needs fewer. */
        static int sizeGroups(int sizes, int t) {
            int many = 0;
            int least = 0;
            for (int size = 1; size <= MOST_SIZE; size++) {
                if ((sizes & 1 << size - 1) == 0) {
                    continue;
                }
                if (many == 0 || 16 * size * size > (16 + t) * least * least) {
                    many++;
                    least = size;
                }
            }
            return many;
        }
    }

    /** The PUNCH, the PLAN and the PRINTS; an IMAGE is another one of these. */
    private static final class Bench {
        private int punchLetter;
        private long gone;
        private boolean burst;
        private final int[] planHollows = new int[MOST_ACTS];
        private final long[] planFiled = new long[MOST_ACTS];
        private int planActs;
        private final long[] prints = new long[MOST_PRINTS];
        private int printCount;

        void wipe() {
            punchLetter = NONE;
            gone = 0L;
            burst = false;
            planActs = 0;
            printCount = 0;
        }

        void copyOf(Bench other) {
            punchLetter = other.punchLetter;
            gone = other.gone;
            burst = other.burst;
            planActs = other.planActs;
            printCount = other.printCount;
            System.arraycopy(other.planHollows, 0, planHollows, 0, MOST_ACTS);
            System.arraycopy(other.planFiled, 0, planFiled, 0, MOST_ACTS);
            System.arraycopy(other.prints, 0, prints, 0, MOST_PRINTS);
        }

        void takePunch(int letter) {
            punchLetter = letter;
            gone = 0L;
            burst = false;
        }

        int take(long squares) {
            int going = Long.bitCount(squares & ~gone);
            gone |= squares;
            return going;
        }

        int strike(long hollow) {
            burst = burst || bursts(gone, hollow);
            return take(struckBy(gone, hollow));
        }

        private static boolean bursts(long gone, long hollow) {
            return (Grid.beside(hollow) & gone) != 0;
        }

        private static long struckBy(long gone, long hollow) {
            return bursts(gone, hollow) ? hollow | Grid.beside(hollow) : hollow;
        }

        /** A BLOW of a HOLLOW, or, with NONE for it, a FILE. */
        int addAct(int hollow, long filed) {
            if (planActs < 0 || planActs >= MOST_ACTS) {
                return -1;
            }
            planHollows[planActs] = hollow;
            planFiled[planActs] = filed;
            planActs++;
            return planActs;
        }

        private long goneBehindAct(Sheet sheet, int letter, int k, long before) {
            int hollow = planHollows[k];
            if (hollow < 0 || hollow >= sheet.hollows) {
                return before | planFiled[k];
            }
            boolean own = sheet.owner[hollow] == letter;
            return own ? before | struckBy(before, sheet.hollow[hollow]) : before;
        }

        long goneBehind(Sheet sheet, int letter, int acts) {
            long lost = 0L;
            for (int k = 0; k < acts && k < MOST_ACTS; k++) {
                lost = goneBehindAct(sheet, letter, k, lost);
            }
            return lost;
        }

        int firstSpoiling(Sheet sheet, int letter) {
            long lost = 0L;
            for (int k = 0; k < planActs && k < MOST_ACTS; k++) {
                lost = goneBehindAct(sheet, letter, k, lost);
                if ((lost & sheet.inkOf(letter)) != 0) {
                    return k;
                }
            }
            return NONE;
        }

        int addPrint(long squares) {
            if (printCount < 0 || printCount >= MOST_PRINTS) {
                return -1;
            }
            prints[printCount] = squares;
            printCount++;
            return printCount;
        }

        private boolean isLeft(Sheet sheet, int h) {
            return sheet.owner[h] == punchLetter && (sheet.hollow[h] & ~gone) != 0;
        }

        boolean canBeDone(Sheet sheet) {
            if ((gone & sheet.inkOf(punchLetter)) != 0) {
                return false;
            }
            for (int h = 0; h < sheet.hollows; h++) {
                if (isLeft(sheet, h) && bursts(gone, sheet.hollow[h])) {
                    return false;
                }
            }
            return true;
        }

        int hollowsLeft(Sheet sheet) {
            int many = 0;
            for (int h = 0; h < sheet.hollows; h++) {
                if (isLeft(sheet, h)) {
                    many++;
                }
            }
            return many;
        }
    }

    /** All PRINTS in groups of KIN; each set of PRINTS is a number of eight bits. */
    private static final class PrintGroups {
        private static final int SETS = 1 << MOST_PRINTS;

        private final long[] turns = new long[MOST_PRINTS * TURNS];
        private final int[] kinOf = new int[MOST_PRINTS];
        private final boolean[] isGroup = new boolean[SETS];
        private final int[] waysOf = new int[SETS];
        private final int[] fewestOf = new int[SETS];
        private int prints;

        void lay(Bench bench, int w, boolean mirrors) {
            prints = Math.min(bench.printCount, MOST_PRINTS);
            for (int p = 0; p < prints; p++) {
                Grid.turnsInto(bench.prints[p], turns, p);
            }
            for (int p = 0; p < prints; p++) {
                kinOf[p] = 0;
                for (int other = 0; other < prints; other++) {
                    // Turned squares lie in another corner of their shape, so the two ways may differ.
                    if (isNear(p, other, w, mirrors) || isNear(other, p, w, mirrors)) {
                        kinOf[p] |= 1 << other;
                    }
                }
            }
        }

        private boolean isNear(int first, int second, int w, boolean mirrors) {
            return Grid.apartBy(turns, first, turns[TURNS * second], mirrors) <= w;
        }

        boolean areKin(int print, int other) {
            return print >= 0 && print < prints && (kinOf[print] & 1 << other) != 0;
        }

        /** Who has a KIN is with it in some PARTING, in which all others are alone. */
        int alwaysAlone() {
            int set = 0;
            for (int p = 0; p < prints; p++) {
                if (kinOf[p] == 1 << p) {
                    set |= 1 << p;
                }
            }
            return set;
        }

        int ways() {
            countSets();
            return waysOf[allPrints()];
        }

        int fewest() {
            countSets();
            return fewestOf[allPrints()];
        }

        private int allPrints() {
            return (1 << prints) - 1;
        }

        private void countSets() {
            isGroup[0] = true;
            waysOf[0] = 1;
            fewestOf[0] = 0;
            for (int set = 1; set <= allPrints() && set < SETS; set++) {
                int first = Integer.bitCount((set & -set) - 1);
                int rest = set & set - 1;
                isGroup[set] = first < MOST_PRINTS && isGroup[rest] && (rest & ~kinOf[first]) == 0;
                countSet(set, rest);
            }
        }

        /** The group of a set's first PRINT is it and some of the rest; what is left was counted before. */
        private void countSet(int set, int rest) {
            int ways = 0;
            int fewest = MOST_PRINTS;
            int with = rest;
            for (int step = 0; step <= rest; step++) {
                int left = rest & ~with;
                if (isGroup[set & ~left]) {
                    ways += waysOf[left];
                    fewest = Math.min(fewest, 1 + fewestOf[left]);
                }
                if (with == 0) {
                    break;
                }
                with = with - 1 & rest;
            }
            waysOf[set] = ways;
            fewestOf[set] = fewest;
        }
    }
}
