import java.util.Random;

/** Makes texts of sheets, most of them right. */
final class TextByChance {
    private final Random chance;
    private final StringBuilder text = new StringBuilder();
    private int letters = 0;

    TextByChance(Random chance) {
        this.chance = chance;
    }

    String make() {
        int clauses = 4 + chance.nextInt(44);
        boolean hollow = chance.nextBoolean();
        for (int i = 0; i < clauses && text.length() < 470; i++) {
            clause(hollow);
        }
        blanks();
        if (chance.nextInt(5) == 0) {
            spoil();
        }
        return text.length() > 500 ? text.substring(0, 500) : text.toString();
    }

    private void blanks() {
        if (chance.nextInt(12) == 0) {
            text.append(" ".repeat(1 + chance.nextInt(3)));
        }
    }

    private void word(String word) {
        blanks();
        text.append(word);
    }

    private int number(int low, int high) {
        int n = low + chance.nextInt(high - low + 1);
        if (Character.isDigit(text.charAt(text.length() - 1))) {
            text.append(' ');
        }
        if (chance.nextBoolean()) {
            text.append(' ');
        }
        text.append(chance.nextInt(30) == 0 ? "0" : "").append(n);
        return n;
    }

    private void clause(boolean hollow) {
        int kind = letters == 0 ? 0 : chance.nextInt(20);
        if (kind <= 2 && letters < 10 || letters == 0) {
            word("letter");
            letters++;
        } else if (kind == 3 && letters < 10) {
            word(chance.nextBoolean() ? "turned" : "mirror");
            number(0, letters - 1);
            letters++;
        } else if (kind == 4 || kind == 6) {
            word("word");
            text.append(chance.nextBoolean() ? " " : "");
            int n = 1 + chance.nextInt(chance.nextBoolean() ? 3 : 8);
            for (int i = 0; i < n; i++) {
                text.append(chance.nextInt(letters));
            }
        } else if (kind == 5) {
            word("spread");
            number(1, 9);
            number(0, 16);
        } else {
            drawing(hollow);
        }
        blanks();
        text.append(';');
    }

    private void drawing(boolean hollow) {
        if (hollow && chance.nextInt(5) > 0) {
            smallRing();
            return;
        }
        int kind = chance.nextInt(3);
        word(kind == 0 ? "bar" : kind == 1 ? "cut" : "ring");
        int x = number(0, kind == 1 ? 7 : 6);
        int y = number(0, kind == 1 ? 7 : 6);
        number(1, kind == 2 ? 8 - x : Math.min(2, 8 - x));
        number(1, kind == 2 ? 8 - y : Math.min(2, 8 - y));
    }

    /** A ring that has an inside, so that hollows come in some number. */
    private void smallRing() {
        word("ring");
        int x = number(0, 5);
        int y = number(0, 5);
        number(3, Math.min(5, 8 - x));
        number(3, Math.min(5, 8 - y));
    }

    private void spoil() {
        for (int k = 0; k <= chance.nextInt(3) && text.length() > 0; k++) {
            int at = chance.nextInt(text.length());
            switch (chance.nextInt(5)) {
                case 0: text.deleteCharAt(at); break;
                case 1: text.insert(at, "0123456789 ;a".charAt(chance.nextInt(13))); break;
                case 2: text.setCharAt(at, (char) chance.nextInt(256)); break;
                case 3: text.setLength(at); break;
                default: text.insert(at, chance.nextBoolean() ? "letter;" : "word 0;");
            }
        }
    }
}
