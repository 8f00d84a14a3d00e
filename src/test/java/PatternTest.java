/** Promise 3: what was told becomes the pattern. */
public final class PatternTest {
    public static void main(String[] args) {
        rightOnes();
        usedUp();
        resultGoes();
        tooLong();
        flags();
        Check.end();
    }

    private static void rightOnes() {
        Check.right("", 0);
        Check.right("|", 0);
        Check.right("(|)|()", 2);
        Check.right("a(?:b(c)|(?=d(e))(?!(f)))*?", 3);
        Check.right("[]", 0);
        Check.right("[^]", 0);
        Check.right("[[(*+?{|^$.]", 0);
        Check.right("[a-c-e]", 0);
        Check.right("[--a]", 0);
        Check.right("[---]", 0);
        Check.right("[--]", 0);
        Check.right("[-a]", 0);
        Check.right("[\\w-]", 0);
        Check.right("[a-]", 0);
        Check.right("[\\b-\\n\\0\\cZ\\x41-\\u0042]", 0);
        Check.right("\\0\\t\\n\\v\\f\\r\\cA\\ca\\x4F\\u00fF\\d\\D\\s\\S\\w\\W\\b\\B", 0);
        Check.right("\\^\\.\\*\\-\\/\\ \\\n\\@\u0000\\\u0000", 0);
        Check.right("\\\u00D7\\\u00F7\\\u00AD\\\u007F", 0);
        Check.right("a*b+c?d{1}e{1,}f{1,2}g*?h+?i??j{1}?k{1,}?l{1,2}?", 0);
        Check.right("a{00}b{2,02}c{99999999999999999999,99999999999999999999}", 0);
        Check.right("\\2(a)\\1(b)", 2);
        Check.right("(\\1)", 1);
        Check.right("/-,:=!<>~'\"\u0100\uFFFF\n", 0);
        Check.right(Check.repeat("()", 20) + "\\20", 20);
        Check.right(Check.repeat("(?:", 40) + Check.repeat(")", 40), 0);
        Check.right(Check.repeat("a", 200), 0);
        Check.right(Check.repeat("(", 20) + Check.repeat("(?=", 20) + Check.repeat(")", 40), 20);
    }

    private static void usedUp() {
        PatternDesk desk = new PatternDesk();
        Check.tell(desk, "(a)");
        Check.due("pattern", desk.pattern(false, false), 1);
        Check.due("what was told is used up", desk.put(5, 1), 1);
        desk.text();
        Check.tell(desk, "(a");
        Check.argument("a wrong pattern", () -> desk.pattern(false, false));
        Check.due("it is used up when this throws", desk.put(5, 1), 1);
        desk.text();
        Check.state("there is no pattern then", () -> desk.match(0, 5));
        Check.tell(desk, Check.repeat("a", 201));
        Check.argument("a pattern that is too long", () -> desk.pattern(false, false));
        Check.due("it is used up when it is too long", desk.put(5, 1), 1);
        Check.state("there is no pattern then either", () -> desk.find(0, 5));
    }

    private static void resultGoes() {
        PatternDesk desk = Check.desk("(a)(b)", "", "ab");
        Check.due("match", desk.match(0, 99), 1);
        int steps = desk.steps();
        Check.tell(desk, "(a)");
        Check.due("pattern", desk.pattern(false, false), 1);
        Check.state("the result goes", () -> desk.group(0, false));
        Check.due("steps stay", desk.steps(), steps);
        Check.due("match", desk.match(0, 99), 1);
        Check.tell(desk, "*");
        Check.argument("a wrong one", () -> desk.pattern(false, false));
        Check.state("the result goes when this throws", () -> desk.group(0, false));
        Check.due("steps stay when this throws", desk.steps(), 3);
    }

    private static void tooLong() {
        for (int length : new int[] {201, 202, 599, 600}) {
            Check.wrong(Check.repeat("a", length), 200);
            Check.wrong(Check.repeat("*", length), 200);
        }
        Check.wrong(Check.repeat("a", 199) + "(", 200);
        Check.wrong(Check.repeat("a", 198) + "(a", 200);
        Check.wrong(Check.repeat("a", 199) + ")", 199);
    }

    private static void flags() {
        Check.matches("^a$", "", "A", 0, "0");
        Check.matches("^a$", "i", "A", 0, "1 0,1");
        Check.finds("^a$", "", "b\na\nb", 0, "0");
        Check.finds("^a$", "m", "b\na\nb", 0, "1 2,3");
        Check.finds("^A$", "m", "b\na\nb", 0, "0");
        Check.finds("^A$", "im", "b\na\nb", 0, "1 2,3");
    }
}
