/** Each sentence of the terms on what a match is that names a boundary case, by itself. */
public final class MatchEdgesTest {
    public static void main(String[] args) {
        alternatives();
        greedyAndLazy();
        none();
        enough();
        forgotten();
        notGoneBackInto();
        notComeTo();
        ends();
        lineEnds();
        allButLineEnds();
        words();
        upperUnits();
        upperSpecials();
        upperClasses();
        upperNotClasses();
        outsideOfClasses();
        Check.end();
    }

    private static void alternatives() {
        Check.sentence("alternatives in order");
        Check.matches("a|ab", "", "ab", 0, "1 0,1");
        Check.matches("ab|a", "", "ab", 0, "1 0,2");
        Check.matches("|a", "", "a", 0, "1 0,0");
        Check.matches("(?:a|ab)$", "", "ab", 0, "1 0,2");
        Check.matches("(a)|(a)|(a)", "", "a", 0, "1 0,1 0,1 - -");
        Check.matches("(?:(a)x|(a)z|(a)z)", "", "az", 0, "1 0,2 - 0,1 -");
        Check.matches("b|c", "", "a", 0, "0");
        Check.matches(Check.repeat("b|", 99) + "a", "", "a", 0, "1 0,1");
    }

    private static void greedyAndLazy() {
        Check.sentence("a greedy repetition goes on before it ends");
        String a = Check.repeat("a", 600);
        Check.matches("(a*)(a*)", "", a, 0, "1 0,600 0,600 600,600");
        Check.matches("(a+)(a+)", "", a, 0, "1 0,600 0,599 599,600");
        Check.matches("(a?)(a?)", "", "a", 0, "1 0,1 0,1 1,1");
        Check.matches("(a{2,4})(a*)", "", "aaaaa", 0, "1 0,5 0,4 4,5");
        Check.matches("(a{2,4})(a{2})", "", "aaaaa", 0, "1 0,5 0,3 3,5");
        Check.sentence("a lazy one ends before it goes on");
        Check.matches("(a*?)(a*)", "", a, 0, "1 0,600 0,0 0,600");
        Check.matches("(a+?)(a*)", "", a, 0, "1 0,600 0,1 1,600");
        Check.matches("(a*?)$", "", a, 0, "1 0,600 0,600");
        Check.matches("(a??)(a?)", "", "a", 0, "1 0,1 0,0 0,1");
        Check.matches("(a{2,4}?)(a*)", "", "aaaaa", 0, "1 0,5 0,2 2,5");
        Check.matches("(a{2,4}?)a$", "", "aaaaa", 0, "1 0,5 0,4");
        Check.matches("(a{2,4}?)aa$", "", "aaaaaaa", 0, "0");
    }

    private static void none() {
        Check.sentence("one that has enough and that takes nothing more is none");
        Check.matches("(a*)*", "", "b", 0, "1 0,0 -");
        Check.matches("(a*)+", "", "b", 0, "1 0,0 0,0");
        Check.matches("()*", "", "", 0, "1 0,0 -");
        Check.matches("()?", "", "", 0, "1 0,0 -");
        Check.matches("()??", "", "", 0, "1 0,0 -");
        Check.matches("()*?$", "", "", 0, "1 0,0 -");
        Check.matches("(?:()|a)*", "", "aa", 0, "1 0,2 -");
        Check.matches("(a*)*", "", "aa", 0, "1 0,2 0,2");
        Check.matches("(a|()b|())*", "", "aab", 0, "1 0,3 2,3 2,2 -");
        Check.matches("(?:a?)*?b", "", "aab", 0, "1 0,3");
        Check.matches("(?:(?=(a)))*a", "", "a", 0, "1 0,1 -");
        Check.matches("(?:\\b)*a", "", "a", 0, "1 0,1");
        Check.matches("(?:a{0})*a", "", "a", 0, "1 0,1");
    }

    private static void enough() {
        Check.sentence("one that has enough (a repetition that is still needed may take nothing)");
        Check.matches("(){1}", "", "", 0, "1 0,0 0,0");
        Check.matches("(){3}", "", "", 0, "1 0,0 0,0");
        Check.matches("(){3,}", "", "", 0, "1 0,0 0,0");
        Check.matches("(a?){3}", "", "a", 0, "1 0,1 1,1");
        Check.matches("(a|){2,3}", "", "a", 0, "1 0,1 1,1");
        Check.matches("(|a){2,3}", "", "a", 0, "1 0,1 0,1");
        Check.matches("(|a){1,2}$", "", "aa", 0, "1 0,2 1,2");
        Check.matches("(|a){1,2}$", "", "aaa", 0, "0");
        Check.matches("(|a){2}$", "", "aa", 0, "1 0,2 1,2");
        Check.matches("(){2000}", "", "", 0, "1 0,0 0,0");
    }

    private static void forgotten() {
        Check.sentence("a repetition forgets the groups in it");
        Check.matches("(?:(a)|b)*", "", "ab", 0, "1 0,2 -");
        Check.matches("(?:(a)|b){2}", "", "ab", 0, "1 0,2 -");
        Check.matches("(?:(a)|(b))*", "", "ab", 0, "1 0,2 - 1,2");
        Check.matches("(?:(a)|b)*", "", "abc", 0, "1 0,2 -");
        Check.matches("(z)((a+)?(b+)?(c))*", "", "zaacbbbcac", 0, "1 0,10 0,1 8,10 8,9 - 9,10");
        Check.matches("(x)(?:(a)|b)*(y)", "", "xaby", 0, "1 0,4 0,1 - 3,4");
        Check.matches("(?:(?:(a)|b)*c)*", "", "acbc", 0, "1 0,4 -");
        Check.matches("(?:(a)|b\\1)*", "", "aba", 0, "1 0,3 2,3");
        Check.matches("(?:(a)|\\1b)*?$", "", "ab", 0, "1 0,2 -");
        // A repetition that was begun and gone back from leaves what it forgot.
        Check.matches("(?:(a)|bc)*", "", "ab", 0, "1 0,1 0,1");
        Check.matches("(?:(a)b?)*?(?:bc)?$", "", "abc", 0, "1 0,3 0,1");
        Check.matches("(a)?b", "", "ab", 0, "1 0,2 0,1");
        Check.matches("(?:(?=(a))a|b)*", "", "ab", 0, "1 0,2 -");
    }

    private static void notGoneBackInto() {
        Check.sentence("a look ahead is not gone back into");
        Check.matches("(?=(a|ab))\\1c", "", "abc", 0, "0");
        Check.matches("(?=(ab|a))\\1c", "", "abc", 0, "1 0,3 0,2");
        Check.matches("(?=(a+))a*b\\1", "", "aaaba", 0, "0");
        Check.finds("(?=(a+))a*b\\1", "", "baaabac", 0, "1 3,6 3,4");
        Check.matches("(?=(a*?))\\1b", "", "ab", 0, "0");
        Check.matches("(?:(?=(a|ab))\\1|ab)c", "", "abc", 0, "1 0,3 -");
        Check.matches("a*(?=(a|aa))\\1$", "", "aaa", 0, "1 0,3 2,3");
        Check.matches("(?=(?=(a|ab))\\1c|x)abc", "", "abc", 0, "0");
        Check.matches("(?!(a|ab)c)abc", "", "abc", 0, "0");
        Check.matches("(?!(a|ab)d)abc", "", "abc", 0, "1 0,3 -");
    }

    private static void notComeTo() {
        Check.sentence("a group that was not come to is empty for its back references");
        Check.matches("\\1(a)", "", "a", 0, "1 0,1 0,1");
        Check.matches("(a\\1)", "", "aa", 0, "1 0,1 0,1");
        Check.matches("(?:(a)|b)\\1", "", "b", 0, "1 0,1 -");
        Check.matches("(?:(a)|b)\\1", "", "aa", 0, "1 0,2 0,1");
        Check.matches("(?:(a)|b)\\1", "", "ab", 0, "0");
        Check.matches("(?!(a))b\\1", "", "b", 0, "1 0,1 -");
        Check.matches("(?!(?!(a)))\\1a", "", "a", 0, "1 0,1 -");
        Check.matches("(a)?\\1b", "", "b", 0, "1 0,1 -");
        Check.matches("(a){0}\\1b", "", "b", 0, "1 0,1 -");
        Check.matches("\\1(a)", "", "", 0, "0");
        Check.matches("()\\1", "", "", 0, "1 0,0 0,0");
        // What it took before is gone when it is begun anew and not through yet.
        Check.matches("(?:(a|b\\1))*", "", "aba", 0, "1 0,3 2,3");
        String a = Check.repeat("a", 600);
        Check.matches("(a{300})\\1", "", a, 0, "1 0,600 0,300");
        Check.matches("(a{301})\\1", "", a, 0, "0");
        Check.matches("(a{300})\\1", "", a, 1, "0");
    }

    private static void ends() {
        Check.sentence("^ is at the beginning, $ at the end");
        String[] texts = {"", "a", "ab", "\n", "a\n", "\na", Check.repeat("\n", 600)};
        for (String text : texts) {
            for (int at = 0; at <= text.length(); at++) {
                Check.matches("^", "", text, at, at == 0 ? "1 0,0" : "0");
                Check.matches("$", "", text, at, at == text.length() ? "1 " + at + "," + at : "0");
            }
        }
    }

    private static boolean isLineEnd(int unit) {
        return unit == 10 || unit == 13 || unit == 8232 || unit == 8233;
    }

    private static void lineEnds() {
        Check.sentence("with many lines also behind, before a line end");
        Check.takes("$", "m", MatchEdgesTest::isLineEnd);
        for (int unit : new int[] {0, 9, 10, 11, 12, 13, 14, 32, 133, 8231, 8232, 8233, 8234, 65535}) {
            String text = "a" + (char) unit + "b";
            Check.matches("^", "m", text, 0, "1 0,0");
            Check.matches("^", "m", text, 1, "0");
            Check.matches("^", "m", text, 2, isLineEnd(unit) ? "1 2,2" : "0");
            Check.matches("^", "m", text, 3, "0");
            Check.matches("$", "m", text, 0, "0");
            Check.matches("$", "m", text, 1, isLineEnd(unit) ? "1 1,1" : "0");
            Check.matches("$", "m", text, 2, "0");
            Check.matches("$", "m", text, 3, "1 3,3");
            Check.matches("^", "", text, 2, "0");
            Check.matches("$", "", text, 1, "0");
        }
        // Between the two of a pair is a line of its own; so are both ends of a lone line end.
        Check.matches("^$", "m", "\r\n", 1, "1 1,1");
        Check.matches("^$", "m", "\n", 0, "1 0,0");
        Check.matches("^$", "m", "\n", 1, "1 1,1");
        Check.matches("^$", "m", "", 0, "1 0,0");
        String full = Check.repeat("a", 599) + "\n";
        Check.matches("^$", "m", full, 600, "1 600,600");
        Check.matches("$", "m", full, 599, "1 599,599");
    }

    private static void allButLineEnds() {
        Check.sentence(". is all but line ends");
        for (String flags : new String[] {"", "m", "i"}) {
            Check.takes(".", flags, u -> !isLineEnd(u));
        }
        Check.matches(".", "", "", 0, "0");
        Check.matches(".", "m", "a", 1, "0");
    }

    private static void words() {
        Check.sentence("\\b is between a unit of w and another one (or an end of the text)");
        String[] texts = {"", "a", "-", "aa", "a-", "-a", "--", "_-", "9-", "Z[", "@A", "`a", "z{", "/0", "9:", "^_", "\u00E9a", "\u017Fa"};
        for (String text : texts) {
            for (int at = 0; at <= text.length(); at++) {
                boolean before = at > 0 && text.substring(at - 1, at).matches("[A-Za-z0-9_]");
                boolean behind = at < text.length() && text.substring(at, at + 1).matches("[A-Za-z0-9_]");
                String yes = "1 " + at + "," + at;
                for (String flags : new String[] {"", "i", "m"}) {
                    Check.matches("\\b", flags, text, at, before != behind ? yes : "0");
                    Check.matches("\\B", flags, text, at, before == behind ? yes : "0");
                }
            }
        }
        Check.matches("a\\b", "", Check.repeat("a", 600), 599, "1 599,600");
        Check.matches("\\B", "", Check.repeat("-", 600), 600, "1 600,600");
    }

    private static int upper(int unit) {
        boolean lower = unit >= 'a' && unit <= 'z' || unit >= 224 && unit <= 246 || unit >= 248 && unit <= 254;
        return lower ? unit - 32 : unit == 255 ? 376 : unit == 181 ? 924 : unit;
    }

    private static void upperUnits() {
        Check.sentence("units are compared as their UPPER ones: a .. z are 32 less; 224 .. 246 and 248 .. 254 32 less");
        for (int unit = 0; unit < 1000; unit++) {
            int one = unit;
            String plain = String.format("\\u%04x", unit);
            int[] others = {unit, unit - 32, unit + 32, unit ^ 32, upper(unit), unit - 1, unit + 1};
            for (int other : others) {
                if (other >= 0) {
                    String text = String.valueOf((char) other);
                    String want = upper(one) == upper(other) ? "1 0,1" : "0";
                    Check.matches(plain, "i", text, 0, want);
                    Check.matches("(.|\\n|\\r)\\1", "i", (char) one + text, 0, want.equals("0") ? "0" : "1 0,2 0,1");
                    Check.matches(plain, "", text, 0, one == other ? "1 0,1" : "0");
                }
            }
        }
    }

    private static void upperSpecials() {
        Check.sentence("255 is 376, 181 is 924; others themselves");
        int[][] pairs = {{255, 376}, {181, 924}};
        for (int[] pair : pairs) {
            for (int one : pair) {
                Check.takes(String.format("\\u%04x", one), "i", u -> u == pair[0] || u == pair[1]);
                Check.takes(String.format("\\u%04x", one), "", u -> u == one);
                Check.takes(String.format("[\\u%04x]", one), "i", u -> u == pair[0] || u == pair[1]);
            }
        }
        // Letters that have an upper one elsewhere, and signs between the letters.
        for (int unit : new int[] {64, 91, 96, 123, 191, 215, 223, 247, 256, 257, 304, 305, 375, 377, 383, 891, 923, 925, 945, 956,
            1072, 7838, 8490, 8491, 65345, 65535}) {
            Check.takes(String.format("\\u%04x", unit), "i", u -> u == unit);
            Check.takes(String.format("[\\u%04x]", unit), "i", u -> u == unit);
        }
        for (int unit : new int[] {65, 90, 97, 122, 192, 214, 216, 222, 224, 246, 248, 254}) {
            Check.takes(String.format("\\u%04x", unit), "i", u -> (u & ~32) == (unit & ~32));
        }
    }

    private static void upperClasses() {
        Check.sentence("A class has a unit when it has one whose upper one is the same");
        Check.takes("[a-z]", "i", u -> u >= 'a' && u <= 'z' || u >= 'A' && u <= 'Z');
        Check.takes("[Z-a]", "i", u -> u >= 'Z' && u <= 'a' || u == 'z' || u == 'A');
        Check.takes("[@-A]", "i", u -> u == '@' || u == 'A' || u == 'a');
        Check.takes("[z-{]", "i", u -> u == 'z' || u == '{' || u == 'Z');
        Check.takes("[\u00D6-\u00D8]", "i", u -> u >= 214 && u <= 216 || u == 246 || u == 248);
        Check.takes("[\u00F6-\u00F8]", "i", u -> u >= 246 && u <= 248 || u == 214 || u == 216);
        Check.takes("[\u00DE-\u00E0]", "i", u -> u >= 222 && u <= 224 || u == 254 || u == 192);
        Check.takes("[\u00FE\u00FF]", "i", u -> u == 222 || u == 254 || u == 255 || u == 376);
        Check.takes("[\\u0177-\\u0179]", "i", u -> u >= 375 && u <= 377 || u == 255);
        Check.takes("[\\u0391-\\u03a9]", "i", u -> u >= 913 && u <= 937 || u == 181);
        Check.takes("[\\D]", "i", u -> u < '0' || u > '9');
        Check.takes("[\\W_]", "i", u -> !(u >= '0' && u <= '9' || u >= 'a' && u <= 'z' || u >= 'A' && u <= 'Z'));
        Check.takes("[\\Wa]", "i", u -> u == 'a' || u == 'A'
                || !(u >= '0' && u <= '9' || u >= 'a' && u <= 'z' || u >= 'A' && u <= 'Z' || u == '_'));
        Check.takes("[]", "i", u -> false);
    }

    private static void upperNotClasses() {
        Check.sentence("a class with ^ when the one without it has not");
        Check.takes("[^a-z]", "i", u -> !(u >= 'a' && u <= 'z' || u >= 'A' && u <= 'Z'));
        Check.takes("[^a]", "i", u -> u != 'a' && u != 'A');
        Check.takes("[^\u00FF]", "i", u -> u != 255 && u != 376);
        Check.takes("[^\\u039c]", "i", u -> u != 924 && u != 181);
        Check.takes("[^\\d]", "i", u -> u < '0' || u > '9');
        Check.takes("[^]", "i", u -> true);
        Check.takes("[^\\0-@B-\\uffff]", "i", u -> false);
        Check.takes("[^\\0-@B-`b-\\uffff]", "i", u -> u == 'A' || u == 'a');
    }

    private static void outsideOfClasses() {
        Check.sentence("(Sets and \\b are as they are when they stand outside of classes.)");
        Check.takes("\\w", "i", u -> u >= '0' && u <= '9' || u >= 'a' && u <= 'z' || u >= 'A' && u <= 'Z' || u == '_');
        Check.takes("\\W", "i", u -> !(u >= '0' && u <= '9' || u >= 'a' && u <= 'z' || u >= 'A' && u <= 'Z' || u == '_'));
        for (int unit : new int[] {181, 223, 255, 305, 376, 383, 924, 8490}) {
            Check.matches("\\b", "i", "a" + (char) unit, 1, "1 1,1");
            Check.matches("\\B", "i", "-" + (char) unit, 1, "1 1,1");
        }
    }
}
