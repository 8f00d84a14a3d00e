/** Promise 4: where the latest pattern was wrong, for every fault that the document names. */
public final class PlaceTest {
    public static void main(String[] args) {
        latest();
        terms();
        braces();
        escapes();
        classes();
        parentheses();
        references();
        firstFault();
        Check.end();
    }

    private static void latest() {
        PatternDesk desk = new PatternDesk();
        Check.due("place before any pattern", desk.place(), -1);
        Check.tell(desk, "ab*)");
        Check.argument("ab*)", () -> desk.pattern(true, true));
        Check.due("place", desk.place(), 3);
        Check.tell(desk, "abc");
        Check.due("text does not change the place", desk.text(), 3);
        Check.due("place", desk.place(), 3);
        Check.state("match without a pattern", () -> desk.match(0, 5));
        Check.due("place", desk.place(), 3);
        Check.tell(desk, Check.repeat("a", 201));
        Check.argument("too long", () -> desk.pattern(false, false));
        Check.due("place of what was too long", desk.place(), 200);
        Check.due("the empty pattern", desk.pattern(false, false), 0);
        Check.due("place of a right one", desk.place(), -1);
    }

    private static void terms() {
        for (String sign : new String[] {"*", "+", "?", "{", "}", "]", ")"}) {
            Check.wrong(sign, 0);
            Check.wrong("a|" + sign, 2);
            Check.wrong("^" + sign, 1);
        }
        for (String sign : new String[] {"*", "+", "?", "{2}", "{2,}"}) {
            Check.wrong("(" + sign, sign.equals("?") ? 2 : 1);
            Check.wrong("(?:" + sign + ")", 3);
            Check.wrong("$" + sign, 1);
            Check.wrong("\\b" + sign, 2);
            Check.wrong("\\B" + sign, 2);
            Check.wrong("(?=a)" + sign, 5);
            Check.wrong("(?!a)" + sign, 5);
            Check.wrong("a*?" + sign, 3);
            Check.wrong("a{1}?" + sign, 5);
        }
        Check.wrong("a**", 2);
        Check.wrong("a*+", 2);
        Check.wrong("a???", 3);
        Check.wrong("a{1}{1}", 4);
    }

    private static void braces() {
        Check.wrong("a{", 2);
        Check.wrong("a{}", 2);
        Check.wrong("a{,", 2);
        Check.wrong("a{x", 2);
        Check.wrong("a{12", 4);
        Check.wrong("a{12x", 4);
        Check.wrong("a{1,", 4);
        Check.wrong("a{1,x}", 4);
        Check.wrong("a{1,,", 4);
        Check.wrong("a{1,2", 5);
        Check.wrong("a{1,2,", 5);
        Check.wrong("a{2,1}", 1);
        Check.wrong("a{2,1}*", 1);
        Check.wrong("a{2,1", 5);
        Check.wrong("a{2,1x", 5);
        Check.wrong("a{2,10", 6);
        Check.wrong("a{010,9}", 1);
        Check.wrong("bb(a){1,0}", 5);
        Check.wrong("a{99999999999999999999,99999999999999999998}", 1);
        Check.wrong("a{4294967297,2}", 1);
        Check.wrong("a{18446744073709551617,2}", 1);
        Check.right("a{2,18446744073709551617}", 0);
        Check.right("a{00000000000000000000002,3}", 0);
        Check.right("a{3,00000000000000000000003}", 0);
        Check.wrong("a}", 1);
        Check.wrong("a{1}}", 4);
    }

    private static void escapes() {
        Check.wrong("\\", 1);
        Check.wrong("ab\\", 3);
        Check.wrong("\\c", 2);
        Check.wrong("\\c1", 2);
        Check.wrong("\\c\u00E9", 2);
        Check.wrong("\\x", 2);
        Check.wrong("\\xg0", 2);
        Check.wrong("\\x0", 3);
        Check.wrong("\\x0g", 3);
        Check.wrong("\\u000", 5);
        Check.wrong("\\u000G", 5);
        Check.wrong("\\u{1}", 2);
        Check.wrong("\\00", 2);
        Check.wrong("\\09", 2);
        for (char unit = 0; unit < 300; unit++) {
            String escape = "a\\" + unit;
            boolean digit = unit >= '0' && unit <= '9';
            boolean letter = unit >= 'A' && unit <= 'Z' || unit >= 'a' && unit <= 'z';
            if (!digit && !letter) {
                boolean name = unit == '$' || unit == '_' || unit == 170 || unit == 181 || unit == 186
                        || unit >= 192 && unit <= 255 && unit != 215 && unit != 247;
                Check.wrong(escape, name || unit > 255 ? 2 : -1);
                Check.wrong("[" + escape + "]", name || unit > 255 ? 3 : -1);
            }
        }
        for (char letter : "aeghijklmopqyzACEFGHIJKLMNOPQRTUVXYZ".toCharArray()) {
            Check.wrong("\\" + letter, 1);
            Check.wrong("[\\" + letter + "]", 2);
        }
        Check.wrong("\\\uFFFF", 1);
        Check.wrong("\\\u200D", 1);
        Check.wrong("[\\B]", 2);
    }

    private static void classes() {
        Check.wrong("[", 1);
        Check.wrong("[^", 2);
        Check.wrong("[a", 2);
        Check.wrong("[a-", 3);
        Check.wrong("[a-b", 4);
        Check.wrong("[--", 3);
        Check.wrong("[b-a", 3);
        Check.wrong("[b-a]", 3);
        Check.wrong("[xb-a]", 4);
        Check.wrong("[a--]", 3);
        Check.wrong("[b-\\x6", 6);
        Check.wrong("[b-\\x61", 3);
        Check.wrong("[b-\\x6g", 6);
        Check.wrong("[b-\\q]", 4);
        Check.wrong("[\\x62-\\u0061]", 6);
        Check.wrong("[a-\\d", 3);
        Check.wrong("[a-\\W]", 3);
        Check.wrong("[\\d-", 4);
        Check.wrong("[\\d-z", 3);
        Check.wrong("[\\d-z]", 3);
        Check.wrong("[\\s-\\S]", 3);
        Check.wrong("[\\s-\\q]", 3);
        Check.wrong("[\\s-\\", 3);
        Check.wrong("[\\w--]", 3);
        Check.wrong("[\\1]", 2);
        Check.wrong("[\\9]", 2);
        Check.wrong("[\\01]", 3);
        Check.wrong("[\\", 2);
        Check.wrong("[\\c]", 3);
        Check.wrong("[]a]", 3);
        Check.wrong("[a]]", 3);
        Check.wrong("]", 0);
        Check.wrong("[\\]", 3);
    }

    private static void parentheses() {
        Check.wrong("(", 1);
        Check.wrong("(a|b", 4);
        Check.wrong("a)", 1);
        Check.wrong("(a))", 3);
        Check.wrong("(?", 2);
        Check.wrong("(?a)", 2);
        Check.wrong("(?<a)", 2);
        Check.wrong("(?:", 3);
        Check.wrong("(?=a", 4);
        String twenty = Check.repeat("()", 20);
        Check.wrong(twenty + "(", 40);
        Check.wrong(twenty + "()", 40);
        Check.wrong(twenty + "(?", 42);
        Check.wrong(twenty + "(?x", 42);
        Check.right(twenty + "(?:)(?=)(?!)", 20);
        Check.wrong(Check.repeat("(", 41), 20);
        for (String open : new String[] {"(?:", "(?=", "(?!"}) {
            String forty = Check.repeat(open, 40);
            Check.wrong(forty, 120);
            Check.wrong(forty + "(", 120);
            Check.wrong(forty + "(?", 120);
            Check.wrong(forty + "(?:", 120);
            Check.wrong(forty + "(a", 120);
            Check.right(forty + Check.repeat(")", 40) + "(?:)()", 1);
        }
    }

    private static void references() {
        Check.wrong("\\1", 1);
        Check.wrong("\\2(a)", 1);
        Check.wrong("(a)\\2\\3", 4);
        Check.wrong("(a)\\10", 4);
        Check.wrong("(a)\\1\\3\\2", 6);
        Check.wrong("(a)(b)\\1\\2\\3\\4", 11);
        Check.wrong("\\4294967297(a)", 1);
        Check.wrong("\\18446744073709551617(a)", 1);
        Check.wrong("\\21" + Check.repeat("()", 20), 1);
        Check.wrong("\\2)", 2);
        Check.wrong("\\2(a", 4);
        Check.wrong("\\2*{", 3);
        Check.wrong("\\2+", 1);
    }

    private static void firstFault() {
        Check.wrong("a{2,1}[b-a]", 1);
        Check.wrong("[b-a]a{2,1}", 3);
        Check.wrong("(a**", 3);
        Check.wrong("\\q*)", 1);
        Check.wrong("(?:a)(", 6);
    }
}
