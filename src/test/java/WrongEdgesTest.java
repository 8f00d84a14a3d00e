/** Each sentence of the terms on when a pattern is wrong, and which place is told, by itself. */
public final class WrongEdgesTest {
    private static final String[] TAILS = {"", "a", "z", "-", "]", "}", ")", "*", "?", "{2}", "|", "0", "9", "\\", "\\9", "(", "[",
        "b-a]", "^", "\u0000", "\uFFFF", "{2,1}", "()()"};
    private static final String[] OPENINGS = {"(?:", "(?=", "(?!"};

    public static void main(String[] args) {
        whateverFollowed();
        missing();
        greatReferences();
        referencesBehindOthers();
        boundsAbove();
        rangeEnds();
        setsBeforeRanges();
        nothingBehindMinus();
        manyGroups();
        deepOnes();
        firstOfTwo();
        Check.end();
    }

    private static void whatever(String dead, int place) {
        for (String tail : TAILS) {
            Check.wrong(dead + tail, place);
        }
        Check.wrong("x|" + dead, 2 + place);
        Check.wrong("(a)(?:" + dead, 6 + place);
    }

    private static void whateverFollowed() {
        Check.sentence("the place of the first unit at which it can't be one any more, whatever followed");
        for (String sign : new String[] {"*", "+", "{", "}", "]"}) {
            whatever(sign, 0);
            whatever("a|" + sign, 2);
            whatever("^" + sign, 1);
            whatever("(?=a)" + sign, 5);
            whatever("(" + sign, 1);
        }
        for (String quantified : new String[] {"a*", "a+?", "a{1}", "a{1,}?", "(?:a)??", "[a]{1,2}?"}) {
            whatever(quantified + "*", quantified.length());
            whatever(quantified + "{", quantified.length());
        }
        for (String tail : TAILS) {
            Check.wrong(")" + tail, 0);
            Check.wrong("(a))" + tail, 3);
            Check.wrong("?" + tail, 0);
        }
        whatever("(?a", 2);
        whatever("(?)", 2);
        whatever("(?<", 2);
        whatever("a{x", 2);
        whatever("a{,", 2);
        whatever("a{}", 2);
        whatever("a{1x", 3);
        whatever("a{1,x", 4);
        whatever("a{1,,", 4);
        whatever("a{1,2,", 5);
        whatever("a{1,2x", 5);
        whatever("\\q", 1);
        whatever("\\$", 1);
        whatever("\\\u0100", 1);
        whatever("\\c1", 2);
        whatever("\\xg", 2);
        whatever("\\x1g", 3);
        whatever("\\ug", 2);
        whatever("\\u123g", 5);
        whatever("\\00", 2);
        whatever("[\\1", 2);
        whatever("[\\00", 3);
        whatever("[\\B", 2);
        whatever("[\\_", 2);
        whatever("[\\x1g", 4);
        whatever("[a-\\q", 4);
    }

    private static void missing() {
        Check.sentence("its length, when something is missing there");
        String[] cut = {"(", "(a", "(a|", "((a)", "(?", "(?:", "(?:a", "(?=", "(?=a", "(?!", "(?!a", "(?:a)(", "a{", "a{1", "a{12",
            "a{1,", "a{1,2", "a{1,23", "\\", "a\\", "\\c", "\\x", "\\xa", "\\u", "\\ua", "\\uab", "\\uabc", "[", "[^", "[a", "[]a-z[",
            "[a-z", "[\\", "[\\c", "[\\x", "[\\xa", "[\\u", "[\\ua", "[\\uab", "[\\uabc", "[\\d", "[\\0", "[a-\\", "[a-\\x", "[a-\\c"};
        for (String pattern : cut) {
            Check.wrong(pattern, pattern.length());
            Check.wrong("(?:b|" + pattern, 5 + pattern.length());
            String full = Check.repeat("b", 200 - pattern.length()) + pattern;
            Check.wrong(full, 200);
        }
        Check.wrong("(((", 3);
        Check.wrong("(((a))", 6);
    }

    private static void greatReferences() {
        Check.sentence("the first digit of a back reference that is too great");
        Check.wrong("\\1", 1);
        Check.wrong("ab\\1", 3);
        Check.wrong("\\12", 1);
        Check.wrong("()\\2", 3);
        Check.right("()\\1", 1);
        Check.wrong("()\\1\\2", 5);
        Check.wrong("()\\2\\3", 3);
        Check.wrong("()\\3\\2", 3);
        Check.wrong("(?:)\\1", 5);
        Check.wrong("(?=)\\1", 5);
        Check.wrong("[(]\\1", 4);
        Check.wrong("\\(\\1", 3);
        Check.wrong("\\21" + Check.repeat("()", 20), 1);
        Check.wrong("\\99999999999999999999999", 1);
        Check.wrong("\\1*", 1);
        Check.wrong("\\1{2}", 1);
        Check.wrong("\\3()()", 1);
        Check.right("\\3()()()", 3);
        Check.wrong(Check.repeat("a", 198) + "\\1", 199);
    }

    private static void referencesBehindOthers() {
        Check.sentence("seen at the end of its digits only when all is read, so behind all others");
        String[] others = {")", "*)", "(", "[", "]", "\\", "\\q", "[b-a]", "a{2,1}", "[\\d-z]", "a**", "(?x", "|*", Check.repeat("()", 21)};
        int[] places = {0, 1, 1, 1, 0, 1, 1, 3, 1, 3, 2, 2, 1, 40};
        for (int i = 0; i < others.length; i++) {
            Check.wrong("\\30" + others[i], 3 + places[i]);
            Check.wrong("\\30a" + others[i], 4 + places[i]);
        }
        Check.wrong("\\30" + Check.repeat("(?:", 41), 3 + 120);
        Check.wrong("\\2(\\3", 5);
        Check.wrong("(\\2", 3);
        Check.wrong("(\\2)", 2);
    }

    private static void boundsAbove() {
        Check.sentence("when n is above m, seen at the }, the place of the {");
        for (String tail : TAILS) {
            Check.wrong("a{2,1}" + tail, 1);
            Check.wrong("b(a){10,9}" + tail, 4);
        }
        Check.wrong("a{2,1", 5);
        Check.wrong("a{2,0", 5);
        Check.wrong("a{2,1x", 5);
        Check.wrong("a{2,1,", 5);
        Check.wrong("a{2,1*", 5);
        Check.wrong("a{2,10", 6);
        Check.right("a{2,10}", 0);
        Check.wrong("a{2,01}", 1);
        Check.right("a{2,02}", 0);
        Check.right("a{2,2}", 0);
        Check.right("a{2,3}", 0);
        Check.wrong("(?:a{2,1}", 4);
        Check.wrong(Check.repeat("a", 195) + "{1,0}", 195);
    }

    private static void rangeEnds() {
        Check.sentence("the place of the first unit of a member that a range can't end with, seen at that member's end");
        for (String tail : TAILS) {
            Check.wrong("[b-a" + tail, 3);
            Check.wrong("[^b-a" + tail, 4);
            Check.wrong("[xyb-a" + tail, 5);
            Check.wrong("[b-\\x61" + tail, 3);
            Check.wrong("[b-\\u0061" + tail, 3);
            Check.wrong("[b-\\cA" + tail, 3);
            Check.wrong("[b-\\t" + tail, 3);
            Check.wrong("[b-\\b" + tail, 3);
            Check.wrong("[b-\\-" + tail, 3);
            Check.wrong("[b--" + tail, 3);
            Check.wrong("[b-^" + tail, 3);
            Check.wrong("[b-\\d" + tail, 3);
            Check.wrong("[b-\\S" + tail, 3);
            Check.wrong("[\\u0062-\\W" + tail, 8);
        }
        Check.wrong("[b-\\0", 3);
        Check.wrong("[b-\\0]", 3);
        Check.wrong("[b-\\", 4);
        Check.wrong("[b-\\c", 5);
        Check.wrong("[b-\\c1", 5);
        Check.wrong("[b-\\x", 5);
        Check.wrong("[b-\\x0", 6);
        Check.wrong("[b-\\x0g", 6);
        Check.wrong("[b-\\x6", 6);
        Check.wrong("[b-\\u000", 8);
        Check.wrong("[b-\\u000g", 8);
        Check.wrong("[b-\\q", 4);
        Check.wrong("[b-\\1", 4);
        Check.right("[b-b]", 0);
        Check.right("[b-\\x62]", 0);
    }

    private static void setsBeforeRanges() {
        Check.sentence("or, when its beginning is a set and no ] follows, of the -");
        for (char set : "dDsSwW".toCharArray()) {
            for (String tail : TAILS) {
                if (!tail.isEmpty() && !tail.equals("]")) {
                    Check.wrong("[\\" + set + "-" + tail, 3);
                    Check.wrong("[^ab\\" + set + "-" + tail, 6);
                }
            }
            Check.wrong("[\\" + set + "--]", 3);
            Check.wrong("[\\" + set + "-\\" + set + "]", 3);
            Check.wrong("[\\" + set + "-\\q]", 3);
            Check.wrong("[\\" + set + "-\\", 3);
            Check.right("[\\" + set + "-]", 0);
            Check.right("[\\" + set + "a-z]", 0);
            Check.right("[-\\" + set + "]", 0);
            Check.right("[a-b\\" + set + "-]", 0);
        }
    }

    private static void nothingBehindMinus() {
        Check.sentence("its length, when nothing follows the -");
        for (String pattern : new String[] {"[a-", "[-", "[--", "[^-", "[a-b-", "[\\d-", "[\\W-", "[\\x62-", "[z-"}) {
            Check.wrong(pattern, pattern.length());
            Check.wrong("(" + pattern, 1 + pattern.length());
        }
        Check.wrong(Check.repeat("a", 196) + "[\\d-", 200);
    }

    private static void manyGroups() {
        Check.sentence("It is wrong at the ( that would be the 21st group (when no ? follows it, also at the end)");
        String[] twenties = {Check.repeat("()", 20), Check.repeat("(", 20) + Check.repeat(")", 20), Check.repeat("(a)b*", 20),
            Check.repeat("(?=())", 20), Check.repeat("(?:)()", 20), Check.repeat("()|", 20)};
        for (String twenty : twenties) {
            int length = twenty.length();
            Check.right(twenty, 20);
            Check.wrong(twenty + "(", length);
            for (String tail : new String[] {")", "a", "a)", "*", "(", "\\", "[", "|", "(?:)", ":", "="}) {
                Check.wrong(twenty + "(" + tail, length);
            }
            Check.wrong(twenty + "(?", length + 2);
            Check.wrong(twenty + "(?x", length + 2);
            Check.wrong(twenty + "(?)", length + 2);
            for (String open : OPENINGS) {
                Check.right(twenty + open + ")", 20);
                Check.wrong(twenty + open + "(", length + 3);
                Check.wrong(twenty + open + "()", length + 3);
                Check.wrong(twenty + open, length + 3);
            }
            Check.right(twenty + "\\([(]", 20);
        }
        Check.right(Check.repeat("()", 19) + "(a)", 20);
        Check.wrong(Check.repeat("(", 21), 20);
        Check.wrong(Check.repeat("(", 20), 20);
    }

    private static void deepOnes() {
        Check.sentence("or that is within 40 others (of any kind, looks ahead, too)");
        for (String open : OPENINGS) {
            String forty = Check.repeat(open, 40);
            String close = Check.repeat(")", 40);
            Check.right(forty + close, 0);
            Check.right(Check.repeat(open, 39) + "(" + close, 1);
            Check.wrong(forty, 120);
            for (String tail : new String[] {"", ")", "a", "?", "?:", "?=", "?!", "?x", "?:)" + close, ")" + close, "*"}) {
                Check.wrong(forty + "(" + tail, 120);
                Check.wrong(forty + "a|(" + tail, 122);
            }
            Check.right(forty + ")" + open + ")" + Check.repeat(")", 39), 0);
            Check.right(forty + close + open + open + "))", 0);
            Check.right(forty + "\\([(]" + close, 0);
        }
        String mixed = Check.repeat("((?:(?=(?!", 10);
        Check.right(mixed + Check.repeat(")", 40), 10);
        Check.wrong(mixed + "(", 100);
        Check.wrong(mixed + "(?:", 100);
        Check.wrong(mixed + ")((", 102);
        String twenty = Check.repeat("(", 20) + Check.repeat("(?:", 20);
        Check.right(twenty + Check.repeat(")", 40), 20);
        Check.wrong(twenty + "(", 80);
        Check.wrong(twenty + "(?:", 80);
        Check.wrong(twenty + "(?", 80);
    }

    private static void firstOfTwo() {
        Check.sentence("A pattern is WRONG otherwise, told with the place of the first unit ..");
        String[] faults = {"*", "a{2,1}", "[b-a]", "[\\d-z]", "\\q", "(?x", "a{x", "\\x0g", Check.repeat("()", 21)};
        int[] places = {0, 1, 3, 3, 1, 2, 2, 3, 40};
        for (int i = 0; i < faults.length; i++) {
            for (String later : faults) {
                Check.wrong("a|" + faults[i] + "|" + later, 2 + places[i]);
                Check.wrong("(a|" + faults[i] + later, 3 + (faults[i].length() == 42 ? 38 : places[i]));
            }
        }
    }
}
