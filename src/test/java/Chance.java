import java.util.Random;

/** Patterns and texts by chance, always the same ones for the same seed. */
final class Chance {
    private static final String SIGNS = "()[]{}*+?|^$.\\ab-,12dwxuc=!:0(()\\[-]{,}";
    private static final String[] PIECES = {"(", "(?:", "(?=", "(?!", ")", "[", "]", "[^", "\\d", "\\W", "\\1", "\\2",
        "{2}", "{1,2}", "{0,}", "{2,1}", "*", "+", "?", "*?", "a", "b", "|", ".", "^", "$", "\\b", "a-b", "\\x61", "\\cA",
        "\\0", "\\u0062", "\u00E0", "\u00DF", "\\", "-", "0"};
    private static final String[] TEXT = {"a", "a", "a", "b", "b", "c", "A", "B", "1", " ", "\n", "\r", "\0", "_", "\u00E0",
        "\u00C0", "\u00FF", "\u0178", "\u2028"};
    private static final String[] ATOMS = {"a", "a", "b", "b", "c", "A", ".", "\\d", "\\w", "\\W", "\\s", "\\S", "\\D", "[ab]",
        "[^a]", "[a-c]", "[B-a]", "[\\W1]", "[^\\s]", "[]", "[^]", "\\1", "\\2", "\\3", "\u00E0", "[\u00C0-\u00FF]", "\\0", "[\\d-]"};

    private final Random random;

    Chance(long seed) {
        random = new Random(seed);
    }

    int below(int bound) {
        return random.nextInt(bound);
    }

    boolean either() {
        return random.nextBoolean();
    }

    long any() {
        return random.nextLong();
    }

    String text() {
        StringBuilder all = new StringBuilder();
        for (int left = below(12); left > 0; left--) {
            all.append(TEXT[below(TEXT.length)]);
        }
        return all.toString();
    }

    String pattern(int way) {
        StringBuilder all = new StringBuilder();
        if (way == 0) {
            for (int left = below(10); left > 0; left--) {
                all.append(SIGNS.charAt(below(SIGNS.length())));
            }
        } else if (way == 1) {
            for (int left = below(10); left > 0; left--) {
                all.append(PIECES[below(PIECES.length)]);
            }
        } else {
            disjunction(all, 3);
            if (way == 2 && all.length() > 0 && below(3) == 0) {
                all.deleteCharAt(below(all.length()));
            }
        }
        return all.length() > 200 ? "" : all.toString();
    }

    private void disjunction(StringBuilder all, int depth) {
        do {
            for (int left = below(4); left > 0; left--) {
                term(all, depth);
            }
        } while (below(3) == 0 && all.append('|') != null);
    }

    private void term(StringBuilder all, int depth) {
        int kind = below(12);
        if (kind == 0) {
            all.append(new String[] {"^", "$", "\\b", "\\B"}[below(4)]);
            return;
        }
        if (kind <= 4 && depth > 0) {
            all.append(new String[] {"(?=", "(?!", "(?:", "("}[kind - 1]);
            disjunction(all, depth - 1);
            all.append(')');
            if (kind <= 2) {
                return;
            }
        } else {
            all.append(ATOMS[below(ATOMS.length)]);
        }
        if (below(2) == 0) {
            all.append(new String[] {"*", "+", "?", "{2}", "{0,2}", "{1,}", "{0}", "{1,3}"}[below(8)]);
            all.append(below(3) == 0 ? "?" : "");
        }
    }
}
