/** Each sentence of the terms on how a pattern is read that names a boundary case, by itself. */
public final class ReadingEdgesTest {
    private static final String SIGNS = "^$\\.*+?()[]{}|";
    private static final String LETTERS = "ABCDEFGHIJKLMNOPQRSTUVWXYZabcdefghijklmnopqrstuvwxyz";
    private static final String DIGITS = "0123456789";
    private static final String SIXTEEN = "0123456789abcdefABCDEF";

    public static void main(String[] args) {
        units();
        sizes();
        fullPatterns();
        withoutAnnexB();
        alternatives();
        terms();
        quantifiers();
        lazyOnes();
        plainUnits();
        groups();
        zero();
        backReferences();
        controls();
        controlLetters();
        digitsOfSixteen();
        setLetters();
        otherEscapes();
        classMembers();
        classEscapes();
        ranges();
        minus();
        sets();
        Check.end();
    }

    private static void units() {
        Check.sentence("UNITS are 0 .. 65535");
        Check.matches("\u0000\uFFFF", "", "\u0000\uFFFF", 0, "1 0,2");
        Check.matches("\u0000", "", "\uFFFF", 0, "0");
        Check.matches("\uFFFF", "", "\u0000", 0, "0");
        Check.matches("\u0000", "", "", 0, "0");
        Check.matches("\uFFFF", "", "", 0, "0");
        Check.matches("[\u0000-\uFFFF]{2}", "", "\u0000\uFFFF", 0, "1 0,2");
        Check.matches("[^\u0000-\uFFFF]", "", "\uFFFF", 0, "0");
        // Halves of a pair are units by themselves.
        Check.matches("^..$", "", "\uD83D\uDE00", 0, "1 0,2");
        Check.matches("^.$", "", "\uD83D\uDE00", 0, "0");
        Check.wrong("[\uDE00-\uD83D]", 3);
    }

    private static void sizes() {
        Check.sentence("THE PATTERN and THE TEXT have at most 200 and 600 of them");
        String a = Check.repeat("a", 600);
        Check.matches(Check.repeat("a", 199), "", a, 401, "1 401,600");
        Check.matches(Check.repeat("a", 200), "", a, 400, "1 400,600");
        Check.matches(Check.repeat("a", 200), "", a, 401, "0");
        Check.wrong(Check.repeat("a", 201), 200);
        Check.matches("a*", "", a, 0, "1 0,600");
        Check.matches("^a{600}$", "", a, 0, "1 0,600");
        Check.matches("a{601}", "", a, 0, "0");
        PatternDesk desk = new PatternDesk();
        Check.tell(desk, a);
        Check.state("a 601st unit", () -> desk.put('a', 1));
    }

    private static void fullPatterns() {
        Check.sentence("THE PATTERN .. at most 200 (full of repetitions, looks ahead, members, classes, alternatives, groups, one after another)");
        String[] patterns = {Check.repeat("a?", 100), Check.repeat("(?=a)", 40), Check.repeat("(?=)", 50), Check.repeat("(?!)|", 39) + "a",
            "[" + Check.repeat("b", 197) + "a]", "[" + Check.repeat("b-c", 65) + "aaa]", Check.repeat("[]|", 66) + "aa",
            Check.repeat("|", 200), Check.repeat("(a?)?", 20) + Check.repeat("a", 100), Check.repeat("(?:a)*", 33) + "b?",
            Check.repeat("(?:", 40) + "a" + Check.repeat(")*", 39) + ")"};
        int[] ends = {100, 0, 0, 1, 1, 1, 2, 0, 120, 150, 150};
        for (int round = 0; round < 3; round++) {
            PatternDesk desk = new PatternDesk();
            Check.tell(desk, Check.repeat("a", 150));
            desk.text();
            for (int i = 0; i < patterns.length; i++) {
                int which = round == 1 ? patterns.length - 1 - i : i;
                // Telling a full pattern takes 50 of an object's 512 calls.
                if (i == 7) {
                    desk = new PatternDesk();
                    Check.tell(desk, Check.repeat("a", 150));
                    desk.text();
                }
                Check.tell(desk, patterns[which]);
                desk.pattern(false, false);
                Check.due("match of " + patterns[which], desk.match(0, 10000), 1);
                Check.due("end of " + patterns[which], desk.group(0, true), ends[which]);
            }
        }
    }

    private static void withoutAnnexB() {
        Check.sentence("read as in clause 15.10.1 .. (without annex B)");
        Check.wrong("{", 0);
        Check.wrong("x{", 2);
        Check.wrong("x{,5}", 2);
        Check.wrong("x{a}", 2);
        Check.wrong("]", 0);
        Check.wrong("}", 0);
        Check.wrong("\\1", 1);
        Check.wrong("\\8", 1);
        Check.wrong("\\01", 2);
        Check.wrong("[\\1]", 2);
        Check.wrong("[\\07]", 3);
        Check.wrong("\\c", 2);
        Check.wrong("\\c0", 2);
        Check.wrong("[\\c_]", 3);
        Check.wrong("\\xZ", 2);
        Check.wrong("\\u12Z", 4);
        Check.wrong("\\a", 1);
        Check.wrong("(?=a)*", 5);
        Check.wrong("(?!a){2}", 5);
        Check.wrong("[\\w-a]", 3);
        Check.wrong("(?<n>a)", 2);
        Check.wrong("(?<=a)", 2);
    }

    private static void alternatives() {
        Check.sentence("DISJUNCTION: ALTERNATIVES with | between (at least one; each may be empty)");
        for (String pattern : new String[] {"", "|", "||", "a|", "|a", "a||b", "(?:)", "(?:|)", "(?=)", "(?=|)", "(?!)", "(?!|)"}) {
            Check.right(pattern, 0);
        }
        Check.right("()", 1);
        Check.right("(|)|(||)", 2);
        Check.right(Check.repeat("|", 200), 0);
        Check.matches("", "", "", 0, "1 0,0");
        Check.matches("|a", "", "a", 0, "1 0,0");
        Check.matches("a|", "", "a", 0, "1 0,1");
        Check.matches("a|", "", "b", 0, "1 0,0");
        Check.matches("(?:a||b)$", "", "b", 0, "1 0,1");
        Check.matches("(?=)a", "", "a", 0, "1 0,1");
        Check.matches("(?!)", "", "a", 0, "0");
        Check.matches("(?!|)", "", "a", 0, "0");
    }

    private static void terms() {
        Check.sentence("TERM: an ASSERTION, or an ATOM, perhaps with a QUANTIFIER");
        for (String quantifier : new String[] {"*", "+", "?", "{1}", "{0,}", "{0,1}"}) {
            for (String assertion : new String[] {"^", "$", "\\b", "\\B", "(?=a)", "(?!a)"}) {
                Check.wrong(assertion + quantifier, assertion.length());
                Check.wrong("a" + assertion + quantifier + "b", 1 + assertion.length());
                Check.right("(?:" + assertion + ")" + quantifier, 0);
            }
            for (String atom : new String[] {"a", ".", "\\d", "\\0", "\\*", "\\cA", "\\x41", "[]", "(?:)"}) {
                Check.right(atom + quantifier, 0);
                Check.right(atom + quantifier + "?", 0);
                Check.wrong(atom + quantifier + "*", atom.length() + quantifier.length());
                Check.wrong(atom + quantifier + "??", atom.length() + quantifier.length() + 1);
                Check.wrong(atom + quantifier + "{1}", atom.length() + quantifier.length());
            }
            Check.right("()" + quantifier, 1);
            Check.right("()\\1" + quantifier, 1);
            Check.wrong(quantifier, 0);
            Check.wrong("|" + quantifier, 1);
            Check.wrong("(?:" + quantifier + ")", 3);
        }
    }

    private static void quantifiers() {
        Check.sentence("QUANTIFIER: * + ? {n} {n,} {n,m} (digits; n not above m)");
        String[] rights = {"{0}", "{0,}", "{0,0}", "{0,1}", "{1,1}", "{2,2}", "{9,10}", "{10,10}", "{09,9}", "{9,09}", "{00,0}",
            "{2147483648}", "{4294967296,4294967296}", "{9223372036854775808,}", "{2,18446744073709551618}"};
        for (String right : rights) {
            Check.right("a" + right, 0);
        }
        String[] falling = {"{1,0}", "{2,1}", "{10,9}", "{010,9}", "{10,09}", "{100000,99999}", "{2147483648,2147483647}",
            "{4294967296,1}", "{4294967298,3}", "{9223372036854775808,9223372036854775807}", "{18446744073709551618,3}"};
        for (String wrong : falling) {
            Check.wrong("a" + wrong, 1);
        }
        for (String sign : new String[] {"/", ":", ",", "}", "-", " ", "a", "\u0660"}) {
            Check.wrong("a{" + sign, 2);
            Check.wrong("a{" + sign + "1}", 2);
        }
        for (String sign : new String[] {"/", ":", ";", "-", " ", "a"}) {
            Check.wrong("a{1" + sign + "}", 3);
            Check.wrong("a{1," + sign + "}", 4);
            Check.wrong("a{1,2" + sign + "}", 5);
        }
        Check.matches("a{0}", "", "aaa", 0, "1 0,0");
        Check.matches("a{0,0}", "", "aaa", 0, "1 0,0");
        Check.matches("a{2,2}", "", "aaa", 0, "1 0,2");
        Check.matches("a{3}", "", "aaa", 0, "1 0,3");
        Check.matches("a{4}", "", "aaa", 0, "0");
        Check.matches("a{3,}", "", "aaa", 0, "1 0,3");
        Check.matches("a{4,}", "", "aaa", 0, "0");
        Check.matches("a{0,18446744073709551617}", "", "aaa", 0, "1 0,3");
        Check.matches("a{4294967297}", "", "aaa", 0, "0");
        Check.matches("a{000000000000000000002}", "", "aaa", 0, "1 0,2");
    }

    private static void lazyOnes() {
        Check.sentence("perhaps ? behind it (LAZY, otherwise GREEDY)");
        String[] quantifiers = {"*", "+", "?", "{1}", "{1,}", "{1,2}"};
        int[] greedy = {3, 3, 1, 1, 3, 2};
        int[] lazy = {0, 1, 0, 1, 1, 1};
        for (int i = 0; i < quantifiers.length; i++) {
            Check.matches("a" + quantifiers[i], "", "aaa", 0, "1 0," + greedy[i]);
            Check.matches("a" + quantifiers[i] + "?", "", "aaa", 0, "1 0," + lazy[i]);
        }
    }

    private static void plainUnits() {
        Check.sentence("ATOM: a unit that is none of ^ $ \\ . * + ? ( ) [ ] { } |");
        PatternDesk desk = null;
        for (int unit = 0; unit < 65536; unit++) {
            // Six calls a unit.
            if (unit % 80 == 0) {
                desk = new PatternDesk();
            }
            if (SIGNS.indexOf(unit) < 0) {
                Check.due("put", desk.put(unit, 1), 1);
                Check.due("pattern of unit " + unit, desk.pattern(false, false), 0);
                desk.put((long) unit << 16 | unit ^ 1, 2);
                desk.text();
                Check.due("match of unit " + unit, desk.match(0, 2), 1);
                Check.due("match of its neighbour", desk.match(1, 2), 0);
            }
        }
        for (char sign : "*+?)]{}".toCharArray()) {
            Check.wrong(String.valueOf(sign), 0);
        }
        Check.wrong("(", 1);
        Check.wrong("[", 1);
        Check.wrong("\\", 1);
        Check.matches("^", "", "^", 0, "1 0,0");
        Check.matches("$", "", "$", 0, "0");
        Check.matches("|", "", "|", 0, "1 0,0");
        Check.matches(".", "", "x", 0, "1 0,1");
    }

    private static void groups() {
        Check.sentence("a GROUP, numbered from 1 on by its (");
        Check.matches("((a)(?:(b))(?=(c)))((?!(d)))", "", "abc", 0, "1 0,2 0,2 0,1 1,2 2,3 2,2 -");
        Check.matches("(\\()[(](b)", "", "((b", 0, "1 0,3 0,1 2,3");
    }

    private static void zero() {
        Check.sentence("ESCAPE: 0, not followed by a digit (unit 0)");
        Check.matches("\\0", "", "\u0000", 0, "1 0,1");
        Check.matches("\\0", "", "0", 0, "0");
        for (String behind : new String[] {"", "a", "/", ":", "*", "|", "(?:)", "\\0", "\u0660"}) {
            Check.right("\\0" + behind, 0);
        }
        for (char digit : DIGITS.toCharArray()) {
            Check.wrong("\\0" + digit, 2);
            Check.wrong("(a)\\0" + digit, 5);
            Check.wrong("[\\0" + digit + "]", 3);
        }
    }

    private static void backReferences() {
        Check.sentence("another digit and more digits: a BACK REFERENCE, the number of a group of the pattern (wherever it stands)");
        String ten = Check.repeat("(.)", 10);
        String places = "0,1 1,2 2,3 3,4 4,5 5,6 6,7 7,8 8,9 9,10";
        Check.matches(ten + "\\10", "", "abcdefghijj", 0, "1 0,11 " + places);
        Check.matches(ten + "\\10", "", "abcdefghija0", 0, "0");
        Check.matches(ten + "\\1(?:)0", "", "abcdefghija0", 0, "1 0,12 " + places);
        Check.wrong("(.)\\10", 4);
        for (int groups = 1; groups <= 20; groups++) {
            String all = Check.repeat("()", groups);
            Check.right(all + "\\" + groups, groups);
            Check.right("\\" + groups + all, groups);
            Check.wrong(all + "\\" + (groups + 1), 2 * groups + 1);
            Check.wrong("\\" + (groups + 1) + all, 1);
        }
        Check.right("(\\1)", 1);
        Check.right("(?!(a))\\1", 1);
        Check.wrong("()\\100", 3);
        Check.wrong("()\\4294967297", 3);
        Check.wrong("()\\18446744073709551617", 3);
        Check.matches("\\2(a)(b)", "", "ab", 0, "1 0,2 0,1 1,2");
    }

    private static void controls() {
        Check.sentence("t n v f r (9 10 11 12 13)");
        String letters = "tnvfr";
        for (int i = 0; i < 5; i++) {
            int unit = 9 + i;
            for (String pattern : new String[] {"\\" + letters.charAt(i), "[\\" + letters.charAt(i) + "]"}) {
                Check.takes(pattern, "", u -> u == unit);
            }
        }
    }

    private static void controlLetters() {
        Check.sentence("c and a letter A .. Z, a .. z (the letter modulo 32)");
        for (int unit = 0; unit < 400; unit++) {
            char letter = (char) unit;
            if (LETTERS.indexOf(letter) >= 0) {
                String control = String.valueOf((char) (unit % 32));
                Check.matches("\\c" + letter, "", control, 0, "1 0,1");
                Check.matches("[^\\c" + letter + "]", "", control, 0, "0");
                Check.matches("[\\c" + letter + "]", "", control, 0, "1 0,1");
            } else {
                Check.wrong("\\c" + letter, 2);
                Check.wrong("[\\c" + letter + "]", 3);
            }
        }
        Check.wrong("\\c", 2);
        Check.wrong("[\\c", 3);
    }

    private static void digitsOfSixteen() {
        Check.sentence("x and two, u and four digits of sixteen");
        for (int unit = 0; unit < 400; unit++) {
            String digit = String.valueOf((char) unit);
            boolean is = SIXTEEN.contains(digit);
            String zeros = "0000";
            for (int before = 0; before < 2; before++) {
                String pattern = "\\x" + zeros.substring(0, before) + digit + zeros.substring(before + 1, 2);
                Check.wrong(pattern, is ? -1 : 2 + before);
                Check.wrong("[" + pattern + "]", is ? -1 : 3 + before);
            }
            for (int before = 0; before < 4; before++) {
                String pattern = "\\u" + zeros.substring(0, before) + digit + zeros.substring(before + 1);
                Check.wrong(pattern, is ? -1 : 2 + before);
                Check.wrong("[" + pattern + "]", is ? -1 : 3 + before);
            }
        }
        for (int unit = 0; unit < 256; unit++) {
            Check.matches(String.format("\\x%02x\\x%02X", unit, unit), "", Check.repeat(String.valueOf((char) unit), 2), 0, "1 0,2");
        }
        for (int unit : new int[] {0, 1, 15, 16, 255, 256, 4095, 4096, 32767, 32768, 43981, 65535}) {
            Check.matches(String.format("\\u%04x\\u%04X", unit, unit), "", Check.repeat(String.valueOf((char) unit), 2), 0, "1 0,2");
        }
        Check.matches("\\x414", "", "A4", 0, "1 0,2");
        Check.matches("\\u00414", "", "A4", 0, "1 0,2");
    }

    private static void setLetters() {
        Check.sentence("d D s S w W (SETS)");
        for (char letter : LETTERS.toCharArray()) {
            boolean outside = "bBcdDfnrsStvwWxu".indexOf(letter) >= 0;
            boolean inside = outside && letter != 'B';
            boolean needsMore = "cxu".indexOf(letter) >= 0;
            Check.wrong("\\" + letter, outside ? needsMore ? 2 : -1 : 1);
            Check.wrong("[\\" + letter + "]", inside ? needsMore ? 3 : -1 : 2);
        }
        Check.matches("\\d\\D\\s\\S\\w\\W", "", "0a 0a ", 0, "1 0,6");
        Check.matches("[\\d][\\D][\\s][\\S][\\w][\\W]", "", "0a 0a ", 0, "1 0,6");
    }

    private static boolean isNamePart(int unit) {
        return LETTERS.indexOf(unit) >= 0 || DIGITS.indexOf(unit) >= 0 || unit == '$' || unit == '_' || unit == 170
                || unit == 181 || unit == 186 || unit >= 192 && unit <= 214 || unit >= 216 && unit <= 246
                || unit >= 248 && unit <= 255;
    }

    private static void otherEscapes() {
        Check.sentence("a unit that is none that a name can have .. and below 256: itself; one above 255 can't stand there");
        PatternDesk desk = null;
        for (int unit = 0; unit < 65536; unit++) {
            // Fourteen calls a unit.
            if (unit % 36 == 0) {
                desk = new PatternDesk();
            }
            if (LETTERS.indexOf(unit) >= 0 || DIGITS.indexOf(unit) >= 0) {
                continue;
            }
            boolean right = unit < 256 && !isNamePart(unit);
            escaped(desk, "\\" + (char) unit, right ? -1 : 1, unit);
            escaped(desk, "[\\" + (char) unit + "]", right ? -1 : 2, unit);
        }
    }

    private static void escaped(PatternDesk desk, String pattern, int place, int unit) {
        Check.tell(desk, pattern);
        int groups = -1;
        try {
            groups = desk.pattern(false, false);
        } catch (IllegalArgumentException e) {
            groups = -1;
        }
        Check.due("groups of escaped " + unit, groups, place < 0 ? 0 : -1);
        Check.due("place of escaped " + unit, desk.place(), place);
        if (place < 0 && groups == 0) {
            desk.put((long) unit << 16 | unit ^ 1, 2);
            desk.text();
            Check.due("escaped " + unit + " is itself", desk.match(0, 9), 1);
            Check.due("escaped " + unit + " is no other", desk.match(1, 9), 0);
        }
    }

    private static void classMembers() {
        Check.sentence("CLASS: [ perhaps ^, then members up to ]");
        Check.takes("[]", "", u -> false);
        Check.takes("[^]", "", u -> true);
        Check.takes("[^^]", "", u -> u != '^');
        Check.takes("[a^]", "", u -> u == 'a' || u == '^');
        Check.takes("[\\^]", "", u -> u == '^');
        Check.wrong("[", 1);
        Check.wrong("[^", 2);
        Check.wrong("[^a", 3);
        Check.right("[" + Check.repeat("a", 198) + "]", 0);
        Check.sentence("CLASS: .. a unit (not \\ or ])");
        Check.takes("[$\\\\.*+?()[\\]{}|]", "", u -> u != '^' && SIGNS.indexOf(u) >= 0);
        Check.wrong("[]]", 2);
        Check.wrong("[^]]", 3);
        Check.wrong("[\\]", 3);
        Check.wrong("[a\\", 3);
    }

    private static void classEscapes() {
        Check.sentence("\\ and an escape as above (b is 8; a digit but 0 can't stand there, nor 0 before a digit)");
        Check.takes("[\\b]", "", u -> u == 8);
        Check.takes("[\\b-\\r]", "", u -> u >= 8 && u <= 13);
        Check.takes("[\\0]", "", u -> u == 0);
        Check.takes("[\\0a1]", "", u -> u == 0 || u == 'a' || u == '1');
        Check.right("[\\0-1]", 0);
        Check.wrong("[\\B]", 2);
        for (int digit = 1; digit <= 9; digit++) {
            Check.wrong("(a)[\\" + digit + "]", 5);
            Check.wrong("[a-\\" + digit + "]", 4);
        }
        for (int digit = 0; digit <= 9; digit++) {
            Check.wrong("[\\0" + digit + "]", 3);
            Check.wrong("[\\0-\\0" + digit + "]", 6);
        }
    }

    private static void ranges() {
        Check.sentence("a member, -, a member: all units from the first to the second (neither a set, and not falling)");
        Check.takes("[a-a]", "", u -> u == 'a');
        Check.takes("[a-b]", "", u -> u == 'a' || u == 'b');
        Check.takes("[b-yB-Y]", "", u -> u >= 'b' && u <= 'y' || u >= 'B' && u <= 'Y');
        Check.takes("[\\0-\\uffff]", "", u -> true);
        Check.takes("[^\\0-\\uffff]", "", u -> false);
        Check.takes("[\\x80-\\u7fff]", "", u -> u >= 128 && u <= 32767);
        Check.takes("[^\\x80-\\u7fff]", "", u -> u < 128 || u > 32767);
        Check.takes("[\\uffff-\\uffff]", "", u -> u == 65535);
        Check.takes("[+--]", "", u -> u >= 43 && u <= 45);
        Check.takes("[--/]", "", u -> u >= 45 && u <= 47);
        Check.takes("[---]", "", u -> u == 45);
        Check.takes("[\\[-\\]]", "", u -> u >= 91 && u <= 93);
        Check.takes("[!-^]", "", u -> u >= 33 && u <= 94);
        Check.wrong("[b-a]", 3);
        Check.wrong("[\\uffff-\\ufffe]", 8);
        Check.wrong("[\\x01-\\0]", 6);
        for (char set : "dDsSwW".toCharArray()) {
            Check.wrong("[a-\\" + set + "]", 3);
            Check.wrong("[\\" + set + "-a]", 3);
            Check.wrong("[\\" + set + "-\\" + set + "]", 3);
        }
    }

    private static void minus() {
        Check.sentence("otherwise - is itself");
        Check.takes("[-]", "", u -> u == '-');
        Check.takes("[^-]", "", u -> u != '-');
        Check.takes("[--]", "", u -> u == '-');
        Check.takes("[-a]", "", u -> u == '-' || u == 'a');
        Check.takes("[a-]", "", u -> u == '-' || u == 'a');
        Check.takes("[a-c-]", "", u -> u == '-' || u >= 'a' && u <= 'c');
        Check.takes("[a-c-e]", "", u -> u == '-' || u >= 'a' && u <= 'c' || u == 'e');
        Check.takes("[\\d-]", "", u -> u == '-' || u >= '0' && u <= '9');
        Check.takes("[-\\d]", "", u -> u == '-' || u >= '0' && u <= '9');
        Check.takes("[a\\-c]", "", u -> u == '-' || u == 'a' || u == 'c');
        Check.takes("-", "", u -> u == '-');
    }

    private static boolean isWord(int unit) {
        return LETTERS.indexOf(unit) >= 0 || DIGITS.indexOf(unit) >= 0 || unit == '_';
    }

    private static boolean isSpace(int unit) {
        int[] all = {9, 11, 12, 32, 160, 5760, 6158, 8239, 8287, 12288, 65279, 10, 13, 8232, 8233};
        for (int one : all) {
            if (unit == one) {
                return true;
            }
        }
        return unit >= 8192 && unit <= 8202;
    }

    private static void sets() {
        for (String flags : new String[] {"", "i"}) {
            Check.sentence("SETS: d 0 .. 9");
            Check.takes("\\d", flags, u -> DIGITS.indexOf(u) >= 0);
            Check.takes("[\\d]", flags, u -> DIGITS.indexOf(u) >= 0);
            Check.sentence("SETS: w A .. Z, a .. z, 0 .. 9, _");
            Check.takes("\\w", flags, ReadingEdgesTest::isWord);
            Check.takes("[\\w]", flags, ReadingEdgesTest::isWord);
            Check.sentence("SETS: s blanks (..) and LINE ENDS (10, 13, 8232, 8233)");
            Check.takes("\\s", flags, ReadingEdgesTest::isSpace);
            Check.takes("[\\s]", flags, ReadingEdgesTest::isSpace);
            Check.sentence("SETS: D, W, S all others");
            Check.takes("\\D", flags, u -> DIGITS.indexOf(u) < 0);
            Check.takes("[\\D]", flags, u -> DIGITS.indexOf(u) < 0);
            Check.takes("\\W", flags, u -> !isWord(u));
            Check.takes("[\\W]", flags, u -> !isWord(u));
            Check.takes("\\S", flags, u -> !isSpace(u));
            Check.takes("[\\S]", flags, u -> !isSpace(u));
        }
    }
}
