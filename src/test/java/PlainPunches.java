import java.math.BigInteger;
import java.util.ArrayDeque;
import java.util.ArrayList;
import java.util.Arrays;
import java.util.Collections;
import java.util.HashMap;
import java.util.List;
import java.util.Map;
import java.util.NoSuchElementException;
import java.util.TreeSet;

/**
 * The document once more, with sets of points and by trying everything: slow, and written apart from the program,
 * so that both are unlikely to be wrong in the same way.
 */
final class PlainPunches {
    /** A set of squares, each as 8 times Y, and X. */
    static final class Squares extends TreeSet<Integer> {
        private static final long serialVersionUID = 1L;

        static Squares of(long bits) {
            Squares s = new Squares();
            for (int i = 0; i < 64; i++) {
                if ((bits >>> i) % 2 != 0) {
                    s.add(i);
                }
            }
            return s;
        }

        long bits() {
            long b = 0;
            for (int i : this) {
                b += 1L << i;
            }
            return b;
        }

        Squares copy() {
            Squares s = new Squares();
            s.addAll(this);
            return s;
        }
    }

    static final class Blank {
        final List<Squares> letters = new ArrayList<>();
        final List<int[]> words = new ArrayList<>();
        final int[] spread = new int[10];

        Blank() {
            Arrays.fill(spread, 4);
        }
    }

    static final class Fault extends Exception {
        private static final long serialVersionUID = 1L;
        final int kind;
        final int place;

        Fault(int kind, int place) {
            super("fault");
            this.kind = kind;
            this.place = place;
        }
    }

    static final class Act {
        final int hollow;
        final int side;
        final int line;
        final int n;

        Act(int hollow, int side, int line, int n) {
            this.hollow = hollow;
            this.side = side;
            this.line = line;
            this.n = n;
        }
    }

    static final class State {
        int punch = -1;
        Squares gone = new Squares();
        boolean burst = false;
        List<Act> plan = new ArrayList<>();
        List<Squares> prints = new ArrayList<>();

        State copy() {
            State s = new State();
            s.punch = punch;
            s.gone = gone.copy();
            s.burst = burst;
            s.plan = new ArrayList<>(plan);
            s.prints = new ArrayList<>(prints);
            return s;
        }
    }

    private final StringBuilder tape = new StringBuilder();
    private Blank blank = new Blank();
    private final List<Squares> hollows = new ArrayList<>();
    private final List<Integer> owners = new ArrayList<>();
    private int faultAt = -1;
    private State state = new State();
    private final List<State> images = new ArrayList<>();
    private final Map<Integer, Long> lineSets = new HashMap<>();

    // ---- the text ----

    int feed(int a, int b, int c, int d, int e) {
        if (tape.length() > 480) {
            return -1;
        }
        for (int number : new int[] {a, b, c, d, e}) {
            for (int k = 3; k >= 0; k--) {
                tape.append((char) Math.floorMod(number >> 8 * k, 256));
            }
        }
        return tape.length();
    }

    int sheet(int n) {
        if (n < 0 || n > tape.length()) {
            throw new IllegalArgumentException();
        }
        String text = tape.substring(0, n);
        tape.setLength(0);
        try {
            blank = parse(text);
        } catch (Fault f) {
            faultAt = f.place;
            return f.kind - 10;
        }
        faultAt = -1;
        state = new State();
        images.clear();
        lineSets.clear();
        findHollows();
        return blank.letters.size();
    }

    /** A piece of the text: a number, a word, another sign, or the end. */
    private static final class Piece {
        final char kind;
        final String text;
        final int at;

        Piece(char kind, String text, int at) {
            this.kind = kind;
            this.text = text;
            this.at = at;
        }
    }

    private static List<Piece> pieces(String text) {
        List<Piece> all = new ArrayList<>();
        int i = 0;
        while (i < text.length()) {
            char c = text.charAt(i);
            int j = i + 1;
            if (c == ' ') {
                i++;
                continue;
            }
            char kind = 'x';
            if (c >= '0' && c <= '9') {
                kind = '9';
                while (j < text.length() && text.charAt(j) >= '0' && text.charAt(j) <= '9') {
                    j++;
                }
            } else if (c >= 'a' && c <= 'z') {
                kind = 'a';
                while (j < text.length() && text.charAt(j) >= 'a' && text.charAt(j) <= 'z') {
                    j++;
                }
            } else if (c == ';') {
                kind = ';';
            }
            all.add(new Piece(kind, text.substring(i, j), i));
            i = j;
        }
        all.add(new Piece('.', "", text.length()));
        return all;
    }

    private static Blank parse(String text) throws Fault {
        Blank b = new Blank();
        ArrayDeque<Piece> rest = new ArrayDeque<>(pieces(text));
        int clauses = 0;
        while (rest.peek().kind != '.') {
            Piece head = rest.poll();
            List<String> known = List.of("letter", "turned", "mirror", "bar", "ring", "cut", "word", "spread");
            if (head.kind != 'a' || !known.contains(head.text)) {
                throw new Fault(1, head.at);
            }
            boolean paints = List.of("bar", "ring", "cut").contains(head.text);
            if (paints && b.letters.isEmpty()) {
                throw new Fault(1, head.at);
            }
            clauses++;
            boolean adds = List.of("letter", "turned", "mirror").contains(head.text);
            if (clauses > 60 || adds && b.letters.size() == 10 || head.text.equals("word") && b.words.size() == 6) {
                throw new Fault(3, head.at);
            }
            if (head.text.equals("letter")) {
                b.letters.add(new Squares());
            } else if (adds) {
                Squares old = b.letters.get(number(rest, 0, b.letters.size() - 1));
                Squares made = new Squares();
                for (int at : old) {
                    int x = 7 - at % 8;
                    int y = head.text.equals("turned") ? 7 - at / 8 : at / 8;
                    made.add(8 * y + x);
                }
                b.letters.add(made);
            } else if (paints) {
                paint(head.text, rest, b.letters.get(b.letters.size() - 1));
            } else if (head.text.equals("word")) {
                b.words.add(word(rest, b.letters.size()));
            } else {
                int z = number(rest, 1, 9);
                b.spread[z] = number(rest, 0, 16);
            }
            Piece end = rest.peek();
            if (end.kind != ';') {
                throw new Fault(1, end.at);
            }
            rest.poll();
        }
        return b;
    }

    private static Piece digits(ArrayDeque<Piece> rest) throws Fault {
        Piece p = rest.peek();
        if (p.kind != '9') {
            throw new Fault(1, p.at);
        }
        return rest.poll();
    }

    private static int number(ArrayDeque<Piece> rest, int low, int high) throws Fault {
        Piece p = digits(rest);
        BigInteger v = new BigInteger(p.text);
        if (v.compareTo(BigInteger.valueOf(low)) < 0 || v.compareTo(BigInteger.valueOf(high)) > 0) {
            throw new Fault(2, p.at);
        }
        return v.intValue();
    }

    private static int[] word(ArrayDeque<Piece> rest, int letters) throws Fault {
        Piece p = digits(rest);
        int[] w = new int[p.text.length()];
        for (int i = 0; i < w.length; i++) {
            w[i] = p.text.charAt(i) - '0';
            if (i == 8 || w[i] >= letters) {
                throw new Fault(2, p.at);
            }
        }
        return w;
    }

    private static void paint(String how, ArrayDeque<Piece> rest, Squares ink) throws Fault {
        int x = number(rest, 0, 7);
        int y = number(rest, 0, 7);
        int w = number(rest, 1, 8 - x);
        int h = number(rest, 1, 8 - y);
        for (int j = y; j < y + h; j++) {
            for (int i = x; i < x + w; i++) {
                boolean rim = i == x || i == x + w - 1 || j == y || j == y + h - 1;
                if (how.equals("cut")) {
                    ink.remove(8 * j + i);
                } else if (how.equals("bar") || rim) {
                    ink.add(8 * j + i);
                }
            }
        }
    }

    int fault() {
        return faultAt;
    }

    // ---- squares ----

    private static boolean clear(Squares ink, int x, int y, int dx, int dy) {
        for (int i = x, j = y; i >= 0 && i < 8 && j >= 0 && j < 8; i += dx, j += dy) {
            if (ink.contains(8 * j + i)) {
                return false;
            }
        }
        return true;
    }

    private static Squares reached(Squares ink) {
        Squares r = new Squares();
        for (int at = 0; at < 64; at++) {
            int x = at % 8;
            int y = at / 8;
            if (clear(ink, x, y, -1, 0) || clear(ink, x, y, 1, 0) || clear(ink, x, y, 0, -1)
                    || clear(ink, x, y, 0, 1)) {
                r.add(at);
            }
        }
        return r;
    }

    private static Squares hidden(Squares ink) {
        Squares h = Squares.of(-1L);
        h.removeAll(ink);
        h.removeAll(reached(ink));
        return h;
    }

    private static List<Integer> around(int at) {
        List<Integer> a = new ArrayList<>();
        if (at % 8 > 0) {
            a.add(at - 1);
        }
        if (at % 8 < 7) {
            a.add(at + 1);
        }
        if (at / 8 > 0) {
            a.add(at - 8);
        }
        if (at / 8 < 7) {
            a.add(at + 8);
        }
        return a;
    }

    private static Squares beside(Squares s) {
        Squares b = new Squares();
        for (int at : s) {
            b.addAll(around(at));
        }
        b.removeAll(s);
        return b;
    }

    private void findHollows() {
        hollows.clear();
        owners.clear();
        for (int letter = 0; letter < blank.letters.size(); letter++) {
            Squares left = hidden(blank.letters.get(letter));
            while (!left.isEmpty()) {
                Squares part = new Squares();
                ArrayDeque<Integer> todo = new ArrayDeque<>(List.of(left.first()));
                while (!todo.isEmpty()) {
                    int at = todo.poll();
                    if (left.remove(at)) {
                        part.add(at);
                        todo.addAll(around(at));
                    }
                }
                if (hollows.size() < 16) {
                    hollows.add(part);
                    owners.add(letter);
                }
            }
        }
    }

    private static Squares shaped(Squares s) {
        int left = 8;
        int top = 8;
        for (int at : s) {
            left = Math.min(left, at % 8);
            top = Math.min(top, at / 8);
        }
        Squares r = new Squares();
        for (int at : s) {
            r.add(8 * (at / 8 - top) + at % 8 - left);
        }
        return r;
    }

    private static int apartOf(Squares first, Squares second, boolean mirrors) {
        int least = 99;
        Squares goal = shaped(second);
        for (int kind = 0; kind < (mirrors ? 8 : 4); kind++) {
            Squares turned = new Squares();
            for (int at : first) {
                int x = kind < 4 ? at % 8 : 7 - at % 8;
                int y = at / 8;
                for (int turn = 0; turn < kind % 4; turn++) {
                    int old = x;
                    x = 7 - y;
                    y = old;
                }
                turned.add(8 * y + x);
            }
            Squares shape = shaped(turned);
            int alone = 0;
            for (int at = 0; at < 64; at++) {
                if (shape.contains(at) != goal.contains(at)) {
                    alone++;
                }
            }
            least = Math.min(least, alone);
        }
        return least;
    }

    // ---- what the calls need ----

    private void needLetter(int letter) {
        if (letter < 0 || letter >= blank.letters.size()) {
            throw new NoSuchElementException();
        }
    }

    private void needHollow(int h) {
        if (h < 0 || h >= hollows.size()) {
            throw new IndexOutOfBoundsException();
        }
    }

    private static void need(boolean right) {
        if (!right) {
            throw new IllegalArgumentException();
        }
    }

    int told(int what) {
        need(what >= 0 && what <= 2);
        return List.of(blank.letters.size(), blank.words.size(), hollows.size()).get(what);
    }

    long squares(int letter, int what) {
        needLetter(letter);
        need(what >= 0 && what <= 2);
        Squares ink = blank.letters.get(letter);
        return List.of(ink, reached(ink), hidden(ink)).get(what).bits();
    }

    private static int broad(Squares ink) {
        TreeSet<Integer> columns = new TreeSet<>();
        for (int at : ink) {
            columns.add(at % 8);
        }
        return columns.isEmpty() ? 0 : columns.last() - columns.first() + 1;
    }

    int letter(int letter, int what) {
        needLetter(letter);
        need(what >= 0 && what <= 4);
        Squares ink = blank.letters.get(letter);
        switch (what) {
            case 0: return ink.size();
            case 1: return beside(ink).size();
            case 2: return broad(ink);
            case 3: return owners.indexOf(letter);
            default: return Collections.frequency(owners, letter);
        }
    }

    long hollow(int h) {
        needHollow(h);
        return hollows.get(h).bits();
    }

    long shape(long squares) {
        return shaped(Squares.of(squares)).bits();
    }

    int apart(int hollow, int other, boolean mirrors) {
        needHollow(hollow);
        needHollow(other);
        return apartOf(hollows.get(hollow), hollows.get(other), mirrors);
    }

    private int counterpunches(int t, boolean mirrors) {
        int n = hollows.size();
        int[] serves = new int[n];
        for (int h = 0; h < n; h++) {
            for (int g = 0; g < n; g++) {
                if (apartOf(hollows.get(h), hollows.get(g), mirrors) <= t) {
                    serves[h] |= 1 << g;
                }
            }
        }
        int best = -1;
        for (int set = 0; set < 1 << n; set++) {
            int all = 0;
            for (int h = 0; h < n; h++) {
                if ((set >> h & 1) == 1) {
                    all |= serves[h];
                }
            }
            if (all == (1 << n) - 1 && (best < 0 || Integer.bitCount(set) < Integer.bitCount(best))) {
                best = set;
            }
        }
        return best;
    }

    int punches(int t, boolean mirrors, int what) {
        need(t >= 0 && t <= 64 && what >= 0 && what <= 1);
        int set = counterpunches(t, mirrors);
        return what == 0 ? Integer.bitCount(set) : set;
    }

    int served(int hollow, int t, boolean mirrors) {
        needHollow(hollow);
        need(t >= 0 && t <= 64);
        int set = counterpunches(t, mirrors);
        for (int h = 0; h < hollows.size(); h++) {
            if ((set >> h & 1) == 1 && apart(h, hollow, mirrors) <= t) {
                return h;
            }
        }
        throw new AssertionError("nobody serves");
    }

    // ---- bites ----

    /** The squares that each line takes; null where a line is none of its own. */
    private static Squares[] takes(Squares ink) {
        Squares[] t = new Squares[32];
        for (int line = 0; line < 32; line++) {
            int side = line / 8;
            int i = line % 8;
            t[line] = new Squares();
            for (int k = 0; k < 8; k++) {
                int step = side % 2 == 0 ? k : 7 - k;
                int at = side < 2 ? 8 * i + step : 8 * step + i;
                if (ink.contains(at)) {
                    break;
                }
                t[line].add(at);
            }
            if (side % 2 == 1 && t[line].size() == 8) {
                t[line] = new Squares();
            }
        }
        return t;
    }

    /** Every set of row lines is tried; which column lines it wants follows. */
    private static long leastCover(Squares ink, Squares wanted) {
        Squares[] t = takes(ink);
        long best = -1;
        long goal = wanted.bits();
        long[] bits = new long[32];
        for (int line = 0; line < 32; line++) {
            bits[line] = t[line].bits();
        }
        rows:
        for (int set = 0; set < 1 << 16; set++) {
            long open = goal;
            for (int r = 0; r < 16; r++) {
                if ((set >> r & 1) == 1) {
                    open &= ~bits[r];
                }
            }
            long all = set;
            for (int c = 16; c < 32; c++) {
                if ((open & bits[c]) != 0) {
                    all |= 1L << c;
                    open &= ~bits[c];
                }
            }
            if (open != 0) {
                continue rows;
            }
            int few = Long.bitCount(all);
            if (best < 0 || few < Long.bitCount(best) || few == Long.bitCount(best) && all < best) {
                best = all;
            }
        }
        return best;
    }

    /** The most squares no two of which share a line: line by line, by which column lines are used. */
    private static int proof(Squares ink) {
        Squares[] t = takes(ink);
        int[] most = new int[1 << 16];
        Arrays.fill(most, -1);
        most[0] = 0;
        Squares reached = reached(ink);
        int loneColumns = 0;
        for (int at : reached) {
            if (lineOf(t, at, 0) < 0) {
                loneColumns |= 1 << lineOf(t, at, 16) - 16;
            }
        }
        for (int r = 0; r < 16; r++) {
            int[] next = most.clone();
            for (int at : t[r]) {
                int c = lineOf(t, at, 16);
                int use = c < 0 ? 0 : 1 << c - 16;
                for (int set = 0; set < 1 << 16; set++) {
                    if (most[set] >= 0 && (set & use) == 0) {
                        next[set | use] = Math.max(next[set | use], most[set] + 1);
                    }
                }
            }
            most = next;
        }
        int best = 0;
        for (int set = 0; set < 1 << 16; set++) {
            if (most[set] >= 0) {
                best = Math.max(best, most[set] + Integer.bitCount(loneColumns & ~set));
            }
        }
        return best;
    }

    private static int lineOf(Squares[] t, int at, int from) {
        for (int line = from; line < from + 16; line++) {
            if (t[line].contains(at)) {
                return line;
            }
        }
        return -1;
    }

    int bites(int letter, int what) {
        needLetter(letter);
        need(what >= 0 && what <= 1);
        return what == 0 ? Long.bitCount(lines(letter)) : proof(blank.letters.get(letter));
    }

    long lines(int letter) {
        needLetter(letter);
        Squares ink = blank.letters.get(letter);
        return lineSets.computeIfAbsent(letter, k -> leastCover(ink, reached(ink)));
    }

    // ---- the punch and the plan ----

    void begin(int letter) {
        needLetter(letter);
        state.punch = letter;
        state.gone = new Squares();
        state.burst = false;
    }

    private static boolean meets(Squares a, Squares b) {
        return !Collections.disjoint(a, b);
    }

    private static boolean strike(Squares gone, Squares hollow) {
        Squares near = beside(hollow);
        boolean bursts = meets(near, gone);
        gone.addAll(hollow);
        if (bursts) {
            gone.addAll(near);
        }
        return bursts;
    }

    private static void filing(Squares gone, int side, int line, int n) {
        for (int k = 0; k < n; k++) {
            int deep = side % 2 == 0 ? k : 7 - k;
            gone.add(side < 2 ? 8 * line + deep : 8 * deep + line);
        }
    }

    int blow(int hollow) {
        needHollow(hollow);
        if (state.punch < 0) {
            return -1;
        }
        if (owners.get(hollow) != state.punch) {
            return -2;
        }
        int before = state.gone.size();
        if (strike(state.gone, hollows.get(hollow))) {
            state.burst = true;
        }
        return state.gone.size() - before;
    }

    int file(int side, int line, int n) {
        need(side >= 0 && side <= 3 && line >= 0 && line <= 7 && n >= 1 && n <= 8);
        if (state.punch < 0) {
            return -1;
        }
        int before = state.gone.size();
        filing(state.gone, side, line, n);
        return state.gone.size() - before;
    }

    long steel() {
        if (state.punch < 0) {
            return 0;
        }
        Squares s = Squares.of(-1L);
        s.removeAll(state.gone);
        return s.bits();
    }

    private static boolean good(Squares gone, Squares ink) {
        return !meets(gone, ink);
    }

    private static boolean done(Squares gone, Squares ink) {
        return good(gone, ink) && gone.size() + ink.size() == 64;
    }

    int punch(int what) {
        need(what >= 0 && what <= 2);
        if (state.punch < 0) {
            return -1;
        }
        Squares ink = blank.letters.get(state.punch);
        boolean yes = List.of(good(state.gone, ink), done(state.gone, ink), state.burst).get(what);
        return yes ? 1 : 0;
    }

    private int add(Act act) {
        if (state.plan.size() == 40) {
            return -1;
        }
        state.plan.add(act);
        return state.plan.size();
    }

    int addBlow(int hollow) {
        needHollow(hollow);
        return add(new Act(hollow, 0, 0, 0));
    }

    int addFile(int side, int line, int n) {
        need(side >= 0 && side <= 3 && line >= 0 && line <= 7 && n >= 1 && n <= 8);
        return add(new Act(-1, side, line, n));
    }

    int clear() {
        int n = state.plan.size();
        state.plan.clear();
        return n;
    }

    int judge(int letter, int what) {
        needLetter(letter);
        need(what >= 0 && what <= 1);
        Squares ink = blank.letters.get(letter);
        Squares gone = new Squares();
        int first = -1;
        for (int k = 0; k < state.plan.size(); k++) {
            Act a = state.plan.get(k);
            if (a.hollow < 0) {
                filing(gone, a.side, a.line, a.n);
            } else if (owners.get(a.hollow) == letter) {
                strike(gone, hollows.get(a.hollow));
            }
            if (first < 0 && !good(gone, ink)) {
                first = k;
            }
        }
        return what == 0 ? first : done(gone, ink) ? 1 : 0;
    }

    // ---- hours ----

    /** Numbers, minutes and fails of sixteen of some acts. */
    private static final class Chance {
        final int number;
        final int minutes;
        final int fails;

        Chance(int number, int minutes, int fails) {
            this.number = number;
            this.minutes = minutes;
            this.fails = fails;
        }
    }

    private List<Chance> blows(int letter, int c) {
        List<Chance> all = new ArrayList<>();
        for (int h = 0; h < hollows.size(); h++) {
            if (owners.get(h) == letter) {
                int n = hollows.get(h).size();
                all.add(new Chance(h, n, Math.min(15, c + n / 4)));
            }
        }
        return all;
    }

    private List<Chance> biting(int letter, int s) {
        List<Chance> all = new ArrayList<>();
        Squares[] t = takes(blank.letters.get(letter));
        for (int line = 0; line < 32; line++) {
            if ((lines(letter) >>> line & 1) == 1) {
                all.add(new Chance(100 + line, t[line].size(), s));
            }
        }
        return all;
    }

    /** The mean MINUTES as a fraction: above and below. */
    private static BigInteger[] mean(List<Chance> row) {
        BigInteger sum = BigInteger.ZERO;
        BigInteger measure = BigInteger.ONE;
        BigInteger well = BigInteger.ONE;
        for (Chance a : row) {
            sum = sum.add(well.multiply(BigInteger.valueOf(a.minutes)));
            sum = sum.shiftLeft(4);
            well = well.multiply(BigInteger.valueOf(16 - a.fails));
            measure = measure.shiftLeft(4);
        }
        return new BigInteger[] {sum, well, measure};
    }

    /** Of all orders the one with the least mean, the first of them number by number; up to seven acts. */
    private static List<Chance> best(List<Chance> row) {
        if (row.size() > 7) {
            List<Chance> sorted = new ArrayList<>(row);
            sorted.sort((a, b) -> {
                double x = a.fails == 0 ? 1e9 : (double) a.minutes / a.fails;
                double y = b.fails == 0 ? 1e9 : (double) b.minutes / b.fails;
                return Double.compare(x, y);
            });
            return sorted;
        }
        List<List<Chance>> tries = new ArrayList<>();
        permute(row, new ArrayList<>(), tries);
        List<Chance> least = tries.get(0);
        for (List<Chance> other : tries) {
            if (mean(other)[0].compareTo(mean(least)[0]) < 0) {
                least = other;
            }
        }
        return least;
    }

    /** All orders, in the order of their numbers. */
    private static void permute(List<Chance> rest, List<Chance> done, List<List<Chance>> into) {
        if (rest.isEmpty()) {
            into.add(new ArrayList<>(done));
        }
        for (int i = 0; i < rest.size(); i++) {
            List<Chance> fewer = new ArrayList<>(rest);
            done.add(fewer.remove(i));
            permute(fewer, done, into);
            done.remove(done.size() - 1);
        }
    }

    private List<Chance> bestOrder(int letter, int c, int s) {
        needLetter(letter);
        need(c >= 0 && c <= 15 && s >= 0 && s <= 15);
        List<Chance> blows = blows(letter, c);
        List<Chance> bites = biting(letter, s);
        if (blows.size() + bites.size() > 11) {
            return null;
        }
        List<Chance> all = new ArrayList<>(best(blows));
        all.addAll(best(bites));
        return all;
    }

    long hours(int letter, int c, int s) {
        List<Chance> all = bestOrder(letter, c, s);
        if (all == null) {
            return -1;
        }
        BigInteger[] m = mean(all);
        return m[0].multiply(BigInteger.valueOf(1000)).divide(m[1]).longValueExact();
    }

    int order(int letter, int c, int s, int k) {
        List<Chance> all = bestOrder(letter, c, s);
        return all == null || k < 0 || k >= all.size() ? -1 : all.get(k).number;
    }

    long bars(int letter, int c, int s) {
        List<Chance> all = bestOrder(letter, c, s);
        if (all == null) {
            return -1;
        }
        BigInteger[] m = mean(all);
        return m[2].multiply(BigInteger.valueOf(1000)).divide(m[1]).longValueExact();
    }

    // ---- colour ----

    private int blackBy(int letter, int g) {
        Squares ink = blank.letters.get(letter);
        return 16 * ink.size() + g * beside(ink).size();
    }

    int black(int letter, int size) {
        needLetter(letter);
        need(size >= 1 && size <= 9);
        return blackBy(letter, blank.spread[size]);
    }

    private int colourBy(int[] word, int g, int room) {
        String digits = new StringBuilder(Integer.toString(room, 5)).reverse() + "0000000000";
        int above = 0;
        int below = 0;
        for (int letter : word) {
            above += blackBy(letter, g);
            below += broad(blank.letters.get(letter)) + digits.charAt(letter) - '0';
        }
        return below == 0 ? 0 : 1000 * above / (16 * below);
    }

    int colour(int word, int size, int room) {
        if (word < 0 || word >= blank.words.size()) {
            throw new IndexOutOfBoundsException();
        }
        need(size >= 1 && size <= 9 && room >= 0 && room <= 9765624);
        return colourBy(blank.words.get(word), blank.spread[size], room);
    }

    int uneven(int size, int room) {
        need(size >= 1 && size <= 9 && room >= 0 && room <= 9765624);
        List<Integer> all = new ArrayList<>();
        for (int[] word : blank.words) {
            all.add(colourBy(word, blank.spread[size], room));
        }
        return all.isEmpty() ? 0 : Collections.max(all) - Collections.min(all);
    }

    int even(int size) {
        need(size >= 1 && size <= 9);
        TreeSet<Integer> used = new TreeSet<>();
        for (int[] word : blank.words) {
            for (int letter : word) {
                used.add(letter);
            }
        }
        if (used.size() > 6) {
            return -1;
        }
        List<Integer> rooms = new ArrayList<>(List.of(0));
        for (int letter : used) {
            List<Integer> more = new ArrayList<>();
            for (int room : rooms) {
                for (int d = 0; d < 5; d++) {
                    more.add(room + d * (int) Math.round(Math.pow(5, letter)));
                }
            }
            rooms = more;
        }
        Collections.sort(rooms);
        int best = 0;
        int least = Integer.MAX_VALUE;
        for (int room : rooms) {
            int u = uneven(size, room);
            if (u < least) {
                least = u;
                best = room;
            }
        }
        return best;
    }

    int press(int colour) {
        need(colour >= 0 && colour <= 99999);
        int best = -1;
        int least = Integer.MAX_VALUE;
        for (int g = 0; g <= 16 && !blank.words.isEmpty(); g++) {
            int sum = 0;
            for (int[] word : blank.words) {
                sum += colourBy(word, g, 0);
            }
            int far = Math.abs(sum / blank.words.size() - colour);
            if (far < least) {
                least = far;
                best = g;
            }
        }
        return best;
    }

    // ---- prints ----

    int print(long squares) {
        need(squares != 0);
        if (state.prints.size() == 8) {
            return -1;
        }
        state.prints.add(Squares.of(squares));
        return state.prints.size();
    }

    boolean kin(int print, int other, int w, boolean mirrors) {
        if (print < 0 || print >= state.prints.size() || other < 0 || other >= state.prints.size()) {
            throw new IndexOutOfBoundsException();
        }
        need(w >= 0 && w <= 64);
        Squares a = state.prints.get(print);
        Squares b = state.prints.get(other);
        return Math.min(apartOf(a, b, mirrors), apartOf(b, a, mirrors)) <= w;
    }

    int partings(int w, boolean mirrors, int what) {
        need(w >= 0 && w <= 64 && what >= 0 && what <= 2);
        int n = state.prints.size();
        boolean[][] kin = new boolean[n][n];
        for (int i = 0; i < n; i++) {
            for (int j = 0; j < n; j++) {
                kin[i][j] = kin(i, j, w, mirrors);
            }
        }
        int[] found = {0, 99, (1 << n) - 1};
        part(kin, 0, new ArrayList<>(), found);
        return found[what];
    }

    private static void part(boolean[][] kin, int next, List<List<Integer>> groups, int[] found) {
        if (next == kin.length) {
            found[0]++;
            found[1] = Math.min(found[1], groups.size());
            int alone = 0;
            for (List<Integer> group : groups) {
                alone |= group.size() == 1 ? 1 << group.get(0) : 0;
            }
            found[2] &= alone;
            return;
        }
        for (List<Integer> group : groups) {
            boolean all = true;
            for (int member : group) {
                all &= kin[next][member];
            }
            if (all) {
                group.add(next);
                part(kin, next + 1, groups, found);
                group.remove(group.size() - 1);
            }
        }
        List<List<Integer>> more = new ArrayList<>(groups);
        more.add(new ArrayList<>(List.of(next)));
        part(kin, next + 1, more, found);
    }

    // ---- what is left ----

    boolean can() {
        if (state.punch < 0 || !good(state.gone, blank.letters.get(state.punch))) {
            return false;
        }
        for (int h = 0; h < hollows.size(); h++) {
            boolean there = !state.gone.containsAll(hollows.get(h));
            if (owners.get(h) == state.punch && there && meets(beside(hollows.get(h)), state.gone)) {
                return false;
            }
        }
        return true;
    }

    int left() {
        if (!can()) {
            return -1;
        }
        int many = 0;
        for (int h = 0; h < hollows.size(); h++) {
            if (owners.get(h) == state.punch && !state.gone.containsAll(hollows.get(h))) {
                many++;
            }
        }
        Squares ink = blank.letters.get(state.punch);
        Squares wanted = reached(ink);
        wanted.removeAll(state.gone);
        return many + Long.bitCount(leastCover(ink, wanted));
    }

    int nearest(long squares, boolean mirrors, int what) {
        need(squares != 0 && what >= 0 && what <= 1);
        int best = -1;
        int least = -1;
        for (int h = 0; h < hollows.size(); h++) {
            int far = apartOf(hollows.get(h), Squares.of(squares), mirrors);
            if (best < 0 || far < least) {
                best = h;
                least = far;
            }
        }
        return what == 0 ? best : least;
    }

    int originals(boolean mirrors, int what) {
        need(what >= 0 && what <= 1);
        int set = 0;
        for (int a = 0; a < blank.letters.size(); a++) {
            boolean original = !blank.letters.get(a).isEmpty();
            for (int b = 0; b < a; b++) {
                if (!blank.letters.get(b).isEmpty()) {
                    original &= apartOf(blank.letters.get(b), blank.letters.get(a), mirrors) != 0;
                }
            }
            set |= original ? 1 << a : 0;
        }
        return what == 0 ? Integer.bitCount(set) : set;
    }

    int fount(int sizes, int t, boolean mirrors) {
        need(sizes >= 1 && sizes <= 511 && t >= 0 && t <= 99);
        List<Integer> list = new ArrayList<>();
        for (int z = 1; z <= 9; z++) {
            if ((sizes >> z - 1 & 1) == 1) {
                list.add(z);
            }
        }
        return fewestGroups(list, new ArrayList<>(), t) * Integer.bitCount(counterpunches(0, mirrors));
    }

    private static int fewestGroups(List<Integer> rest, List<List<Integer>> groups, int t) {
        if (rest.isEmpty()) {
            return groups.size();
        }
        int size = rest.get(0);
        List<Integer> later = rest.subList(1, rest.size());
        List<List<Integer>> more = new ArrayList<>(groups);
        more.add(new ArrayList<>(List.of(size)));
        int best = fewestGroups(later, more, t);
        for (List<Integer> group : groups) {
            group.add(size);
            int top = Collections.max(group);
            int low = Collections.min(group);
            if (16 * top * top <= (16 + t) * low * low) {
                best = Math.min(best, fewestGroups(later, groups, t));
            }
            group.remove(group.size() - 1);
        }
        return best;
    }

    int image() {
        if (images.size() == 3) {
            return -1;
        }
        images.add(state.copy());
        return images.size();
    }

    int restore() {
        if (images.isEmpty()) {
            return -1;
        }
        state = images.remove(images.size() - 1);
        return images.size();
    }

    int count(int what) {
        List<Integer> all = List.of(state.plan.size(), state.prints.size(), images.size(), tape.length());
        return what < 0 || what > 3 ? -1 : all.get(what);
    }
}
