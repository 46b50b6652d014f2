import java.io.IOException;
import java.nio.file.Files;
import java.nio.file.Path;
import java.util.Map;
import java.util.TreeMap;
import java.util.regex.Matcher;
import java.util.regex.Pattern;

/**
 * Checks that stand under sentences of the document. A sentence that is quoted must stand in the document, have a
 * check, and in the end no word of its terms and promises may be left that no check stands under.
 */
final class DocCheck extends Check {
    private static final int TERMS = 0;
    private static final int USE = -1;

    /** A part of the document, and which of its signs have been quoted. */
    private static final class Part {
        final String text;
        final boolean[] quoted;

        Part(String text) {
            this.text = text;
            quoted = new boolean[text.length()];
        }

        boolean quote(String sentence) {
            int at = text.indexOf(sentence);
            for (int i = at; at >= 0 && i < at + sentence.length(); i++) {
                quoted[i] = true;
            }
            return at >= 0;
        }
    }

    private final Map<Integer, Part> parts = new TreeMap<>();
    private String sentence = "";
    private int before = 0;

    DocCheck(Path document) throws IOException {
        for (String part : Files.readString(document).split("(?m)^## ")) {
            String text = part.replaceAll("(?m)^```.*$|====( \\d\\.)?", " ");
            Matcher promise = Pattern.compile("(?s)Promise (\\d+): .*?`: (.*)").matcher(text);
            if (text.startsWith("Terms")) {
                put(TERMS, text.substring("Terms".length()));
            } else if (text.startsWith("What it is")) {
                put(USE, text.substring(text.indexOf("An object is used")));
            } else if (promise.matches()) {
                put(Integer.parseInt(promise.group(1)), promise.group(2));
            }
        }
    }

    private void put(int number, String text) {
        parts.put(number, new Part(oneLine(text)));
    }

    private static String oneLine(String text) {
        return text.replaceAll("\\s+", " ").trim();
    }

    /** The checks that come now hold the class against this sentence, which tells (of) this promise. */
    void says(int promise, String quote) {
        tellUnchecked();
        promise(promise);
        sentence = oneLine(quote);
        before = checks();
        if (!stands(promise)) {
            fail("the document does not say so");
        }
    }

    /** In the promise itself, in the terms, or in an earlier promise that says "so below". */
    private boolean stands(int promise) {
        Part own = parts.get(promise);
        if (own != null && own.quote(sentence) || parts.get(TERMS).quote(sentence) || parts.get(USE).quote(sentence)) {
            return true;
        }
        for (int earlier = 1; earlier < promise && sentence.contains("so below"); earlier++) {
            if (parts.get(earlier).quote(sentence)) {
                return true;
            }
        }
        return false;
    }

    private void tellUnchecked() {
        if (checks() == before && !sentence.isEmpty()) {
            fail("no check stands under it");
        }
    }

    @Override
    String under() {
        return super.under() + ", \"" + sentence + "\"";
    }

    @Override
    void end(String name) {
        tellUnchecked();
        sentence = "";
        for (Map.Entry<Integer, Part> part : parts.entrySet()) {
            promise(part.getKey());
            tellUnquoted(part.getValue());
        }
        same("promises of the document", parts.size() - 2, 42);
        super.end(name);
    }

    private void tellUnquoted(Part part) {
        StringBuilder left = new StringBuilder();
        for (int i = 0; i < part.text.length(); i++) {
            left.append(part.quoted[i] ? '\n' : part.text.charAt(i));
        }
        for (String piece : left.toString().split("\n+")) {
            if (piece.matches(".*\\w.*")) {
                fail("no check stands under: " + piece.trim());
            }
        }
    }
}
