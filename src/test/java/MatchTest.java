/** Promise 6: a pattern is tried at one place; the semantics of every kind of term. */
public final class MatchTest {
    public static void main(String[] args) {
        standardExamples();
        repetitions();
        groupsAndReferences();
        looks();
        assertions();
        units();
        classes();
        ignoringCase();
        sets();
        wrongOnes();
        fullPatterns();
        Check.end();
    }

    private static void standardExamples() {
        Check.matches("a|ab", "", "abc", 0, "1 0,1");
        Check.matches("((a)|(ab))((c)|(bc))", "", "abc", 0, "1 0,3 0,1 0,1 - 1,3 - 1,3");
        Check.matches("a[a-z]{2,4}", "", "abcdefghi", 0, "1 0,5");
        Check.matches("a[a-z]{2,4}?", "", "abcdefghi", 0, "1 0,3");
        Check.matches("(aa|aabaac|ba|b|c)*", "", "aabaac", 0, "1 0,4 2,4");
        Check.matches("(z)((a+)?(b+)?(c))*", "", "zaacbbbcac", 0, "1 0,10 0,1 8,10 8,9 - 9,10");
        Check.matches("(a*)*", "", "b", 0, "1 0,0 -");
        Check.matches("(a*)b\\1+", "", "baaaac", 0, "1 0,1 0,0");
        Check.finds("(?=(a+))", "", "baaabac", 0, "1 1,1 1,4");
        Check.finds("(?=(a+))a*b\\1", "", "baaabac", 0, "1 3,6 3,4");
        Check.matches("(.*?)a(?!(a+)b\\2c)\\2(.*)", "", "baaabaac", 0, "1 0,8 0,2 - 3,8");
    }

    private static void repetitions() {
        Check.matches("a*", "", "aaab", 0, "1 0,3");
        Check.matches("a*?", "", "aaab", 0, "1 0,0");
        Check.matches("a*?b", "", "aaab", 0, "1 0,4");
        Check.matches("a+", "", "b", 0, "0");
        Check.matches("a+?", "", "aaa", 0, "1 0,1");
        Check.matches("a?a", "", "a", 0, "1 0,1");
        Check.matches("a??a", "", "aa", 0, "1 0,1");
        Check.matches("a{2}", "", "a", 0, "0");
        Check.matches("a{2}", "", "aaa", 0, "1 0,2");
        Check.matches("a{2,}", "", "aaaa", 0, "1 0,4");
        Check.matches("a{0}b", "", "ab", 0, "0");
        Check.matches("a{0}", "", "a", 0, "1 0,0");
        Check.matches("(a){0}", "", "a", 0, "1 0,0 -");
        Check.matches("a{1,99999999999999999999}", "", "aaaa", 0, "1 0,4");
        Check.matches("a{99999999999999999999}", "", "aaaa", 0, "0");
        Check.matches("(?:a?)*?b", "", "aab", 0, "1 0,3");
        Check.matches("(?:|a)*b", "", "aab", 0, "1 0,3");
        Check.matches("(?:a|())*", "", "aab", 0, "1 0,2 -");
        Check.matches("(?:()|a){2,}", "", "ab", 0, "1 0,1 -");
        Check.matches("(?:a{1,2}b*){2,3}", "", "aabab", 0, "1 0,5");
        Check.matches("(?:(?:a|b){2}c)*", "", "abcbacab", 0, "1 0,6");
        Check.matches("(a?b??)*", "", "ab", 0, "1 0,2 1,2");
        Check.matches("(?:(a)(b)?){2}", "", "aba", 0, "1 0,3 2,3 -");
    }

    private static void groupsAndReferences() {
        Check.matches("(a)\\1", "", "aa", 0, "1 0,2 0,1");
        Check.matches("(a)\\1", "", "ab", 0, "0");
        Check.matches("(ab)\\1", "", "aba", 0, "0");
        Check.matches("\\1(a)", "", "a", 0, "1 0,1 0,1");
        Check.matches("(a\\1)", "", "aa", 0, "1 0,1 0,1");
        Check.matches("(?:(a)|\\1b)*", "", "ab", 0, "1 0,2 -");
        Check.matches("(a|\\1b)*", "", "ab", 0, "1 0,2 1,2");
        Check.matches("(a*)b\\1$", "", "aabaa", 0, "1 0,5 0,2");
        Check.matches("(a+)(b+)\\2\\1", "", "aabbbbaa", 0, "1 0,8 0,2 2,4");
        Check.matches("(?:(a)|b)*?c\\1", "", "abc", 0, "1 0,3 -");
        Check.matches("(?:(a)|(b))+", "", "ab", 0, "1 0,2 - 1,2");
        Check.matches("(?:(a)x|ab)", "", "ab", 0, "1 0,2 -");
        Check.matches("(a)|b", "", "b", 0, "1 0,1 -");
        Check.matches("(A)\\1", "i", "aA", 0, "1 0,2 0,1");
        Check.matches("(\u00E9)\\1", "i", "\u00C9\u00E9", 0, "1 0,2 0,1");
        Check.matches(Check.repeat("(.)", 10) + "\\10\\1", "", "abcdefghijja", 0,
                "1 0,12 0,1 1,2 2,3 3,4 4,5 5,6 6,7 7,8 8,9 9,10");
        Check.matches("((a)|b)*?\\2c", "", "abc", 0, "1 0,3 1,2 -");
        Check.matches("((a)|b)*?\\2c", "", "abac", 0, "0");
        Check.matches("((a)|b)*?\\2c", "", "baac", 0, "1 0,4 1,2 1,2");
    }

    private static void looks() {
        Check.matches("a(?=b)", "", "ab", 0, "1 0,1");
        Check.matches("a(?=b)", "", "ac", 0, "0");
        Check.matches("a(?!b)", "", "ab", 0, "0");
        Check.matches("a(?!b)", "", "ac", 0, "1 0,1");
        Check.matches("a(?!b)", "", "a", 0, "1 0,1");
        Check.matches("(?=(a|ab))\\1c", "", "abc", 0, "0");
        Check.matches("(?=(ab|a))\\1c", "", "abc", 0, "1 0,3 0,2");
        Check.matches("(?!(a)b)a\\1", "", "ac", 0, "1 0,1 -");
        Check.matches("(?!(?!(a)))a", "", "a", 0, "1 0,1 -");
        Check.matches("(?:(?=(a))a|b)*", "", "aab", 0, "1 0,3 -");
        Check.matches("(?:(?=(a+))a)*", "", "aa", 0, "1 0,2 1,2");
        Check.matches("(?:(?=(a*))b?)*a", "", "aa", 0, "1 0,1 -");
        Check.matches("(?=(?=a)(a))(?=(?!b)a)a(?!a)", "", "ab", 0, "1 0,1 0,1");
        Check.matches("(?:a(?=a*(b))|a)*c", "", "aabc", 0, "0");
        Check.matches("(?:(?!aab)a|ab)*", "", "aaab", 0, "1 0,1");
        Check.matches("(a*)(?=a)", "", "aaa", 0, "1 0,2 0,2");
    }

    private static void assertions() {
        Check.matches("^", "", "\na", 0, "1 0,0");
        Check.matches("^", "", "\na", 1, "0");
        Check.matches("$", "", "a\n", 1, "0");
        Check.matches("$", "", "a\n", 2, "1 2,2");
        for (char end : new char[] {10, 13, 8232, 8233}) {
            Check.matches("^", "m", "a" + end + "b", 2, "1 2,2");
            Check.matches("^", "m", "a" + end + "b", 1, "0");
            Check.matches("$", "m", "a" + end + "b", 1, "1 1,1");
            Check.matches("$", "m", "a" + end + "b", 2, "0");
            Check.matches(".", "m", "a" + end + "b", 1, "0");
        }
        Check.matches("$", "m", "a\u0085b", 1, "0");
        Check.matches("\\b", "", "a", 0, "1 0,0");
        Check.matches("\\b", "", "a", 1, "1 1,1");
        Check.matches("\\b", "", "", 0, "0");
        Check.matches("\\B", "", "", 0, "1 0,0");
        Check.matches("\\b", "", "ab", 1, "0");
        Check.matches("\\B", "", "ab", 1, "1 1,1");
        Check.matches("\\b", "", "a-", 1, "1 1,1");
        Check.matches("\\b", "", "_9", 1, "0");
        Check.matches("\\b", "i", "a\u00E9", 1, "1 1,1");
        Check.matches("\\B", "", "--", 1, "1 1,1");
    }

    private static void units() {
        Check.matches("\\0\\t\\n\\v\\f\\r", "", "\0\t\n\u000B\f\r", 0, "1 0,6");
        Check.matches("\\cA\\cz\\cZ\\x41\\xfF\\u0042\\uFfFf", "", "\u0001\u001A\u001AA\u00FFB\uFFFF", 0, "1 0,7");
        Check.matches("\\x4A\\x6a\\xA9\\uaAfF\\u0009", "", "Jj\u00A9\uAAFF\t", 0, "1 0,5");
        Check.matches("\\*\\.\\\\\\/\\-\\\u00D7", "", "*.\\/-\u00D7", 0, "1 0,6");
        Check.matches("\uD800\uDC00", "", "\uD800\uDC00", 0, "1 0,2");
        Check.matches("^.$", "", "\uD800\uDC00", 0, "0");
        Check.matches(".", "", "\0", 0, "1 0,1");
        Check.matches(".", "", "", 0, "0");
        Check.matches("\\0a", "", "\0b", 0, "0");
    }

    private static void classes() {
        Check.matches("[]", "", "a", 0, "0");
        Check.matches("[^]", "", "\n", 0, "1 0,1");
        Check.matches("[^]", "", "", 0, "0");
        Check.matches("[^a]", "", "", 0, "0");
        Check.matches("[a-c]+", "", "abcd", 0, "1 0,3");
        Check.matches("[^a-c]+", "", "dea", 0, "1 0,2");
        Check.matches("[a-c-e]+", "", "b-ed", 0, "1 0,3");
        Check.matches("[-a]+", "", "-a", 0, "1 0,2");
        Check.matches("[a-]+", "", "-a", 0, "1 0,2");
        Check.matches("[--/]+", "", "-./0", 0, "1 0,3");
        Check.matches("[\\d-]+", "", "1-a", 0, "1 0,2");
        Check.matches("[^^]+", "", "ab^", 0, "1 0,2");
        Check.matches("[a^]+", "", "a^b", 0, "1 0,2");
        Check.matches("[\\b]", "", "\b", 0, "1 0,1");
        Check.matches("[\\b-\\n]+", "", "\b\t\n\u000B", 0, "1 0,3");
        Check.matches("[\\w\\s]+", "", "a b\n-", 0, "1 0,4");
        Check.matches("[^\\W\\d]+", "", "ab1", 0, "1 0,2");
        Check.matches("[\\]\\\\]+", "", "]\\", 0, "1 0,2");
        Check.matches("[\\0-\\uFFFF]+", "", "\0a\uFFFF", 0, "1 0,3");
        Check.matches("[.]", "", "a", 0, "0");
    }

    /** The upper unit, written out anew from the document. */
    private static int upper(int unit) {
        if (unit >= 97 && unit <= 122 || unit >= 224 && unit <= 246 || unit >= 248 && unit <= 254) {
            return unit - 32;
        }
        return unit == 255 ? 376 : unit == 181 ? 924 : unit;
    }

    private static final int[] CASES = {0, 32, 64, 65, 77, 90, 91, 95, 96, 97, 109, 122, 123, 170, 178, 181, 186, 191,
        192, 205, 214, 215, 216, 221, 222, 223, 224, 237, 246, 247, 248, 253, 254, 255, 256, 257, 304, 305, 375, 376,
        377, 383, 913, 924, 945, 956, 1040, 1072, 8490, 8491, 65535};

    private static void ignoringCase() {
        for (int one : CASES) {
            for (int other : CASES) {
                boolean same = upper(one) == upper(other);
                String escape = String.format("\\u%04x", one);
                String text = String.valueOf((char) other);
                Check.matches(escape, "i", text, 0, same ? "1 0,1" : "0");
                Check.matches("[" + escape + "]", "i", text, 0, same ? "1 0,1" : "0");
                Check.matches("[^" + escape + "]", "i", text, 0, same ? "0" : "1 0,1");
                Check.matches("(.)\\1", "i", (char) one + text, 0, same ? "1 0,2 0,1" : "0");
                Check.matches(escape, "", text, 0, one == other ? "1 0,1" : "0");
            }
        }
        Check.matches("[a-z]+", "i", "azAZ@[", 0, "1 0,4");
        Check.matches("[A-_]+", "i", "azAZ_[`", 0, "1 0,6");
        Check.matches("[\u00C0-\u00DE]+", "i", "\u00E0\u00FE\u00D7\u00F7", 0, "1 0,3");
        Check.matches("[\u00E0-\u00FF]+", "i", "\u00C0\u0178\u00F7\u00D7", 0, "1 0,3");
        Check.matches("[\\w]", "i", "\u017F", 0, "0");
        Check.matches("[^x]+", "i", "abX", 0, "1 0,2");
        Check.matches("\\w", "i", "\u212A", 0, "0");
        Check.matches("\\W", "i", "k", 0, "0");
    }

    private static void sets() {
        for (int unit = 0; unit < 65536; unit += unit < 13000 || unit > 65000 ? 1 : 97) {
            boolean digit = unit >= 48 && unit <= 57;
            boolean word = digit || unit >= 65 && unit <= 90 || unit >= 97 && unit <= 122 || unit == 95;
            boolean end = unit == 10 || unit == 13 || unit == 8232 || unit == 8233;
            boolean space = end || unit == 9 || unit == 11 || unit == 12 || unit == 32 || unit == 160 || unit == 5760
                    || unit == 6158 || unit >= 8192 && unit <= 8202 || unit == 8239 || unit == 8287 || unit == 12288
                    || unit == 65279;
            // One group for each set that has the unit, and one for each that has not.
            String want = "1 0,0" + sides(digit) + sides(space) + sides(word) + (end ? " -" : " 0,1");
            Check.matches("(?=(\\d)|)(?=(\\D)|)(?=(\\s)|)(?=(\\S)|)(?=(\\w)|)(?=(\\W)|)(?=(.)|)", "", String.valueOf((char) unit), 0, want);
            Check.matches("(?=([\\d])|)(?=([^\\d])|)(?=([\\s])|)(?=([\\S])|)(?=([^\\W])|)(?=([\\W])|)(?=(.)|)", "i", String.valueOf((char) unit), 0, want);
        }
    }

    private static String sides(boolean has) {
        return has ? " 0,1 -" : " - 0,1";
    }

    private static void wrongOnes() {
        PatternDesk desk = Check.desk("(a)", "", "a");
        Check.due("match", desk.match(0, 99), 1);
        int steps = desk.steps();
        for (int at : new int[] {-1, 2, Integer.MIN_VALUE, Integer.MAX_VALUE}) {
            Check.argument("match at " + at, () -> desk.match(at, 99));
        }
        for (int fuel : new int[] {0, -1, 10001, Integer.MIN_VALUE, Integer.MAX_VALUE}) {
            Check.argument("match with fuel " + fuel, () -> desk.match(0, fuel));
        }
        Check.due("the result stays", desk.group(1, true), 1);
        Check.due("steps stay", desk.steps(), steps);
        Check.due("the least fuel", desk.match(1, 1), 2);
        Check.due("the most fuel", desk.match(0, 10000), 1);
        PatternDesk bare = new PatternDesk();
        Check.argument("the place is looked at before the pattern", () -> bare.match(1, 99));
        Check.argument("the fuel is looked at before the pattern", () -> bare.match(0, 10001));
        Check.state("there is no pattern", () -> bare.match(0, 10000));
    }

    /** As many of each kind as a pattern can hold, and many patterns on one object. */
    private static void fullPatterns() {
        String a = Check.repeat("a", 600);
        Check.matches(Check.repeat("a?", 100), "", a, 3, "1 3,103");
        Check.matches(Check.repeat("a+?", 66), "", a, 3, "1 3,69");
        Check.matches(Check.repeat("(?=)", 50), "", a, 3, "1 3,3");
        Check.matches(Check.repeat("|", 199) + "a", "", a, 3, "1 3,3");
        Check.matches(Check.repeat("[]|", 66) + "a", "", a, 3, "1 3,4");
        Check.matches("[" + Check.repeat("b", 197) + "a]", "", a, 3, "1 3,4");
        Check.matches(Check.repeat("[a]", 66), "", a, 3, "1 3,69");
        String[] patterns = {Check.repeat("a?", 100), Check.repeat("(?=)", 50), "[" + Check.repeat("b", 197) + "a]",
            Check.repeat("(a)", 20)};
        PatternDesk desk = new PatternDesk();
        Check.tell(desk, Check.repeat("a", 120));
        desk.text();
        // Two rounds are what 512 calls allow; the second one finds rows that the first one filled.
        for (int i = 0; i < 2; i++) {
            long ends = 0;
            for (int kind = 0; kind < 4; kind++) {
                Check.tell(desk, patterns[kind]);
                desk.pattern(false, false);
                Check.due("match of " + patterns[kind], desk.match(3, 10000), 1);
                ends = ends * 1000 + desk.group(0, true);
            }
            Check.due("the ends of all four", ends, 103L * 1000000000 + 3 * 1000000 + 4 * 1000 + 23);
        }
    }
}
