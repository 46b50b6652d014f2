/** Puts texts on the tape of an object, and draws squares as texts. */
final class Texts {
    private Texts() {
    }

    static HollowPunches of(String text) {
        HollowPunches x = new HollowPunches();
        tell(x, text);
        return x;
    }

    static int tell(HollowPunches x, String text) {
        put(x, text);
        return x.sheet(text.length());
    }

    static void put(HollowPunches x, String text) {
        StringBuilder all = new StringBuilder(text);
        while (all.length() % 20 != 0) {
            all.append((char) 0);
        }
        for (int at = 0; at < all.length(); at += 20) {
            x.feed(four(all, at), four(all, at + 4), four(all, at + 8), four(all, at + 12), four(all, at + 16));
        }
    }

    private static int four(CharSequence all, int at) {
        return all.charAt(at) << 24 | all.charAt(at + 1) << 16 | all.charAt(at + 2) << 8 | all.charAt(at + 3);
    }

    static String times(int n, String text) {
        return text.repeat(n);
    }

    /** Rows from above, each from the left: '#' is a square. */
    static long squares(String... rows) {
        long bits = 0;
        for (int y = 0; y < rows.length; y++) {
            for (int x = 0; x < rows[y].length(); x++) {
                if (rows[y].charAt(x) == '#') {
                    bits |= 1L << 8 * y + x;
                }
            }
        }
        return bits;
    }
}
