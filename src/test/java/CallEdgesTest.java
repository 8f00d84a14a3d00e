/** Each sentence of the promises 1 to 9 that names a boundary case, by itself. */
public final class CallEdgesTest {
    private static final int[] FAR = {Integer.MIN_VALUE, Integer.MIN_VALUE + 1, -65536, 65536, Integer.MAX_VALUE};

    public static void main(String[] args) {
        object();
        newObject();
        putUnits();
        putCount();
        putFull();
        patternUsedUp();
        patternResult();
        patternTooLong();
        patternGone();
        place();
        textUsedUp();
        textResult();
        matchAnswers();
        matchPlaces();
        matchFuel();
        matchOrder();
        matchStays();
        findPlaces();
        findFuel();
        findAsMatch();
        groupPlaces();
        groupsOfAll();
        groupNumbers();
        groupOrder();
        steps();
        Check.end();
    }

    private static void object() {
        Check.sentence("An object is used for at most 512 calls after it has been made");
        PatternDesk desk = new PatternDesk();
        for (int i = 0; i < 64; i++) {
            // Eight calls a round; the 512th is the last of them.
            Check.due("put", desk.put((long) '(' << 32 | '.' << 16 | ')', 3), 3);
            Check.due("pattern", desk.pattern(i % 2 == 0, i % 3 == 0), 1);
            Check.due("put", desk.put((long) 'a' << 16 | i, 2), 2);
            Check.due("text", desk.text(), 2);
            Check.due("find", desk.find(1, 10000), i == 10 || i == 13 ? 0 : 1);
            Check.due("match", desk.match(0, 3), 1);
            Check.due("group", desk.group(1, true), 1);
            Check.due("steps", desk.steps(), 3);
        }
        Check.sentence("An object is used for at most 512 calls (all of them as dear as can be)");
        PatternDesk dear = Check.desk("(?:(a)(a)|(a)(?=(a)))*b|(c)", "", Check.repeat("a", 599) + "c");
        // 151 calls to tell the text, and some to tell the pattern.
        for (int i = 0; i < 340; i++) {
            Check.due("find that is spent", dear.find(0, 10000 - i % 2), 2);
        }
        Check.due("find", dear.find(599, 12), 1);
        Check.due("begin of 5", dear.group(5, false), 599);
        Check.due("begin of 1", dear.group(1, false), -1);
    }

    private static void newObject() {
        Check.sentence("PatternDesk(): No pattern");
        PatternDesk desk = new PatternDesk();
        Check.state("match", () -> desk.match(0, 1));
        Check.state("find", () -> desk.find(0, 1));
        Check.due("place", desk.place(), -1);
        Check.sentence("PatternDesk(): an empty text");
        Check.argument("match behind it", () -> desk.match(1, 1));
        Check.argument("find behind it", () -> desk.find(1, 1));
        Check.due("pattern", desk.pattern(false, false), 0);
        Check.due("match", desk.match(0, 1), 1);
        Check.due("group", desk.group(0, true), 0);
        Check.due("find", desk.find(0, 1), 1);
        Check.due("group", desk.group(0, true), 0);
        Check.argument("match behind it", () -> desk.match(1, 1));
    }

    /** Asks which units a text has, one by one. */
    private static void has(PatternDesk desk, int... units) {
        Check.due("text", desk.text(), units.length);
        for (int at = 0; at < units.length; at++) {
            Check.tell(desk, String.format("\\u%04x", units[at]));
            Check.due("pattern", desk.pattern(false, false), 0);
            Check.due("unit " + at + " is " + units[at], desk.match(at, 2), 1);
        }
    }

    private static void putUnits() {
        Check.sentence("n units more of what is told (.. the lowest n times 16 bits of units, the highest first)");
        PatternDesk desk = new PatternDesk();
        long units = 0x8001_0002_FFFF_7FFEL;
        Check.due("put of 4", desk.put(units, 4), 4);
        has(desk, 0x8001, 2, 0xFFFF, 0x7FFE);
        Check.due("put of 3", desk.put(units, 3), 3);
        has(desk, 2, 0xFFFF, 0x7FFE);
        Check.due("put of 2", desk.put(units, 2), 2);
        has(desk, 0xFFFF, 0x7FFE);
        Check.due("put of 1", desk.put(units, 1), 1);
        has(desk, 0x7FFE);
        Check.due("put of the least long", desk.put(Long.MIN_VALUE, 4), 4);
        has(desk, 0x8000, 0, 0, 0);
        Check.due("put of the greatest long", desk.put(Long.MAX_VALUE, 4), 4);
        has(desk, 0x7FFF, 0xFFFF, 0xFFFF, 0xFFFF);
        Check.due("put of -1", desk.put(-1, 1), 1);
        Check.due("put of 0 behind it", desk.put(0, 4), 5);
        has(desk, 0xFFFF, 0, 0, 0, 0);
    }

    private static void putCount() {
        Check.sentence("put: how many there are");
        PatternDesk desk = new PatternDesk();
        int told = 0;
        for (int i = 0; i < 240; i++) {
            told += 1 + i % 4;
            Check.due("put", desk.put(i, 1 + i % 4), told);
        }
        Check.due("text", desk.text(), 600);
        Check.sentence("put: IllegalArgumentException: n is not so");
        for (int n : new int[] {0, -1, -4, 5, 6, 16}) {
            Check.argument("put of " + n, () -> desk.put(-1, n));
        }
        for (int n : FAR) {
            Check.argument("put of " + n, () -> desk.put(-1, n));
        }
        Check.due("nothing was told", desk.put('a', 1), 1);
        Check.due("put of 4", desk.put('a', 4), 5);
    }

    private static void putFull() {
        Check.sentence("put: IllegalStateException: there would be more than 600");
        for (int told = 597; told <= 600; told++) {
            for (int n = 1; n <= 4; n++) {
                PatternDesk desk = new PatternDesk();
                Check.tell(desk, Check.repeat("a", told));
                int count = n;
                if (told + n > 600) {
                    Check.state("put of " + n + " behind " + told, () -> desk.put(-1, count));
                    Check.due("none of them is told", desk.text(), told);
                } else {
                    Check.due("put of " + n + " behind " + told, desk.put(-1, count), told + n);
                    Check.due("all of them are told", desk.text(), told + n);
                }
                Check.due("there is room behind text()", desk.put(-1, 4), 4);
            }
        }
        PatternDesk full = new PatternDesk();
        Check.tell(full, Check.repeat("a", 600));
        for (int n : new int[] {0, 5, Integer.MAX_VALUE, Integer.MIN_VALUE}) {
            Check.argument("n is not so, when it is full", () -> full.put(-1, n));
        }
        Check.state("put of 1, when it is full", () -> full.put(-1, 1));
        Check.argument("pattern of 600 units", () -> full.pattern(false, false));
        Check.due("there is room behind pattern()", full.put(-1, 4), 4);
    }

    private static void patternUsedUp() {
        Check.sentence("pattern: What was told becomes the pattern (and is used up, also when this throws)");
        for (String told : new String[] {"", "a", "(", "[b-a]", "\\1", Check.repeat("a", 200), Check.repeat("a", 201),
            Check.repeat("a", 600)}) {
            boolean right = told.isEmpty() || told.charAt(0) == 'a' && told.length() <= 200;
            PatternDesk desk = new PatternDesk();
            Check.tell(desk, told);
            if (right) {
                Check.due("pattern " + told, desk.pattern(false, false), 0);
            } else {
                Check.argument("pattern " + told, () -> desk.pattern(false, false));
            }
            Check.due("what is told behind " + told, desk.put('b', 1), 1);
            Check.due("text", desk.text(), 1);
            Check.due("nothing is told behind " + told, desk.text(), 0);
        }
        Check.sentence("pattern: how many groups it has");
        for (int groups = 0; groups <= 20; groups++) {
            Check.right(Check.repeat("(?:)()(?=)", groups), groups);
        }
    }

    private static void patternResult() {
        Check.sentence("pattern: The latest result goes (also when this throws; steps() stays)");
        for (String told : new String[] {"", "(a)b", "(", Check.repeat("a", 201)}) {
            PatternDesk desk = Check.desk("(a)b", "", "ab");
            Check.due("match", desk.match(0, 9), 1);
            Check.due("group", desk.group(1, true), 1);
            Check.tell(desk, told);
            Check.due("telling leaves the result", desk.group(1, true), 1);
            if (told.length() > 4 || told.equals("(")) {
                Check.argument("pattern " + told, () -> desk.pattern(false, false));
            } else {
                desk.pattern(false, false);
            }
            Check.state("group behind " + told, () -> desk.group(0, false));
            Check.due("steps behind " + told, desk.steps(), 4);
        }
    }

    private static void patternTooLong() {
        Check.sentence("pattern: IllegalArgumentException: it has more than 200 units");
        for (int length = 198; length <= 203; length++) {
            PatternDesk desk = new PatternDesk();
            Check.tell(desk, Check.repeat("a", length));
            if (length > 200) {
                Check.argument("pattern of " + length, () -> desk.pattern(false, false));
                Check.due("place", desk.place(), 200);
            } else {
                Check.due("pattern of " + length, desk.pattern(false, false), 0);
                Check.due("place", desk.place(), -1);
                Check.tell(desk, Check.repeat("a", 600));
                desk.text();
                Check.due("match", desk.match(0, 10000), 1);
                Check.due("its last unit counts", desk.group(0, true), length);
            }
        }
    }

    private static void patternGone() {
        Check.sentence("pattern: or is wrong (there is no pattern then)");
        for (String told : new String[] {"*", "(", "a{2,1}", "\\2", Check.repeat("()", 21), Check.repeat("a", 201),
            Check.repeat("a", 600)}) {
            PatternDesk desk = Check.desk("a", "", "a");
            Check.due("match", desk.match(0, 9), 1);
            Check.tell(desk, told);
            Check.argument("pattern " + told, () -> desk.pattern(false, false));
            Check.state("match behind " + told, () -> desk.match(0, 9));
            Check.state("find behind " + told, () -> desk.find(0, 9));
            Check.tell(desk, "a");
            Check.due("a right one again", desk.pattern(false, false), 0);
            Check.due("match, the text is still there", desk.match(0, 9), 1);
        }
    }

    private static void place() {
        PatternDesk desk = new PatternDesk();
        Check.sentence("place: -1 when .. there was none");
        Check.due("place", desk.place(), -1);
        Check.tell(desk, "*");
        Check.due("text", desk.text(), 1);
        Check.due("place, a text is no pattern", desk.place(), -1);
        Check.sentence("place: Where the latest pattern was wrong");
        Check.tell(desk, "*");
        Check.argument("pattern *", () -> desk.pattern(false, false));
        Check.due("place", desk.place(), 0);
        Check.tell(desk, Check.repeat("a", 199) + "*");
        Check.due("a right one of 200", desk.pattern(false, false), 0);
        Check.tell(desk, Check.repeat("a", 199) + ")");
        Check.argument("wrong at the last unit", () -> desk.pattern(false, false));
        Check.due("place", desk.place(), 199);
        Check.due("place, asked again", desk.place(), 199);
        Check.tell(desk, Check.repeat("a", 199) + "(");
        Check.argument("200 units, and one is missing", () -> desk.pattern(false, false));
        Check.due("place", desk.place(), 200);
        Check.sentence("place: 200 when it was too long");
        PatternDesk other = new PatternDesk();
        for (int length : new int[] {201, 202, 400, 600}) {
            Check.tell(other, Check.repeat(")", length));
            Check.argument("pattern of " + length, () -> other.pattern(false, false));
            Check.due("place", other.place(), 200);
        }
        Check.sentence("place: -1 when it was right");
        for (PatternDesk one : new PatternDesk[] {desk, other}) {
            Check.due("the empty pattern", one.pattern(false, false), 0);
            Check.due("place", one.place(), -1);
        }
    }

    private static void textUsedUp() {
        Check.sentence("text: What was told becomes the text (and is used up): how many units it has");
        PatternDesk desk = new PatternDesk();
        Check.due("text of nothing", desk.text(), 0);
        desk.pattern(false, false);
        for (int length : new int[] {1, 4, 5, 599, 600, 0, 600, 3}) {
            Check.tell(desk, Check.repeat("a", length));
            Check.due("text", desk.text(), length);
            Check.due("its end", desk.match(length, 1), 1);
            Check.argument("behind its end", () -> desk.match(length + 1, 1));
        }
        Check.due("nothing is told any more", desk.text(), 0);
        Check.argument("the empty text has one place", () -> desk.match(1, 1));
    }

    private static void textResult() {
        Check.sentence("text: The latest result goes");
        for (String told : new String[] {"", "ab"}) {
            PatternDesk desk = Check.desk("(a)b", "", "ab");
            Check.due("match", desk.match(0, 9), 1);
            Check.tell(desk, told);
            Check.due("telling leaves the result", desk.group(1, true), 1);
            desk.text();
            Check.state("group", () -> desk.group(0, false));
            Check.due("steps are the latest match's", desk.steps(), 4);
        }
    }

    private static void matchAnswers() {
        Check.sentence("match: 0 no match, 1 a match (the result), 2 spent");
        PatternDesk desk = Check.desk("ab", "", "abaab");
        Check.due("a match", desk.match(0, 3), 1);
        Check.due("its end", desk.group(0, true), 2);
        Check.due("spent", desk.match(0, 2), 2);
        Check.due("no match", desk.match(2, 3), 0);
        Check.sentence("match: The latest result goes");
        Check.due("a match", desk.match(0, 3), 1);
        Check.due("another match", desk.match(3, 3), 1);
        Check.due("the result is the latest one", desk.group(0, false), 3);
        Check.due("no match", desk.match(1, 3), 0);
        Check.state("group behind no match", () -> desk.group(0, false));
        Check.due("a match", desk.match(0, 3), 1);
        Check.due("spent", desk.match(0, 1), 2);
        Check.state("group behind a spent one", () -> desk.group(0, false));
        PatternDesk choices = Check.desk("a*b|c", "", "aabd");
        for (int fuel : new int[] {5, 99}) {
            Check.due("a match or a spent one that leaves choices", choices.match(0, fuel), fuel == 5 ? 2 : 1);
            Check.due("no match behind it", choices.match(3, 99), 0);
            // An alternative, the quantifier, a and b; an alternative and c.
            Check.due("nothing of the latest one is tried", choices.steps(), 6);
        }
        Check.sentence("match: Tries the pattern at a place");
        for (int at = 0; at <= 5; at++) {
            Check.due("match at " + at, desk.match(at, 9), at == 0 || at == 3 ? 1 : 0);
        }
    }

    private static void matchPlaces() {
        Check.sentence("match: IllegalArgumentException: there is no such place (0 .. the text's length)");
        for (int length : new int[] {0, 1, 599, 600}) {
            PatternDesk desk = Check.desk("", "", Check.repeat("a", length));
            Check.due("match at 0", desk.match(0, 1), 1);
            Check.due("match at the text's length", desk.match(length, 1), 1);
            Check.due("its begin", desk.group(0, false), length);
            Check.argument("match at -1", () -> desk.match(-1, 1));
            Check.argument("match one behind the length", () -> desk.match(length + 1, 1));
            for (int at : FAR) {
                Check.argument("match at " + at, () -> desk.match(at, 1));
            }
        }
    }

    private static void matchFuel() {
        Check.sentence("match: with so much fuel (1 .. 10,000) .. IllegalArgumentException: .. fuel is not so");
        PatternDesk desk = Check.desk("", "", "a");
        Check.due("the least fuel", desk.match(0, 1), 1);
        Check.due("the most fuel", desk.match(0, 10000), 1);
        for (int fuel : new int[] {0, -1, 10001, 10002, -10000}) {
            Check.argument("fuel " + fuel, () -> desk.match(0, fuel));
        }
        for (int fuel : FAR) {
            Check.argument("fuel " + fuel, () -> desk.match(0, fuel));
        }
    }

    private static void matchOrder() {
        Check.sentence("match: IllegalArgumentException .. (this first); IllegalStateException: there is no pattern");
        PatternDesk desk = new PatternDesk();
        Check.tell(desk, "ab");
        desk.text();
        for (int round = 0; round < 2; round++) {
            Check.argument("no place, no pattern", () -> desk.match(3, 1));
            Check.argument("no place, no pattern", () -> desk.match(-1, 1));
            Check.argument("no fuel, no pattern", () -> desk.match(0, 0));
            Check.argument("too much fuel, no pattern", () -> desk.match(0, 10001));
            Check.argument("neither place nor fuel nor pattern", () -> desk.match(3, 0));
            Check.state("no pattern", () -> desk.match(2, 10000));
            Check.state("no pattern", () -> desk.match(0, 1));
            Check.tell(desk, "(");
            Check.argument("a wrong pattern", () -> desk.pattern(false, false));
        }
    }

    private static void matchStays() {
        Check.sentence("match: When it throws the latest result and steps() stay");
        PatternDesk desk = Check.desk("(a)", "", "ba");
        Check.argument("match", () -> desk.match(3, 9));
        Check.due("steps", desk.steps(), 0);
        Check.due("match", desk.match(1, 9), 1);
        Check.argument("match", () -> desk.match(3, 9));
        Check.due("begin", desk.group(1, false), 1);
        Check.argument("match", () -> desk.match(0, 0));
        Check.due("end", desk.group(1, true), 2);
        Check.argument("match", () -> desk.match(0, 10001));
        Check.due("end of all", desk.group(0, true), 2);
        Check.due("steps", desk.steps(), 3);
        Check.tell(desk, "*");
        Check.argument("a wrong pattern", () -> desk.pattern(false, false));
        Check.state("match", () -> desk.match(0, 9));
        Check.due("steps", desk.steps(), 3);
    }

    private static void findPlaces() {
        Check.sentence("find: Tries it at a place, then at the next one, and so on up to the text's end");
        String text = "b" + Check.repeat("a", 598) + "b";
        PatternDesk desk = Check.desk("b|$", "", text);
        int[] froms = {0, 1, 2, 598, 599, 600};
        int[] begins = {0, 599, 599, 599, 599, 600};
        for (int i = 0; i < froms.length; i++) {
            Check.due("find from " + froms[i], desk.find(froms[i], 10000), 1);
            Check.due("begin", desk.group(0, false), begins[i]);
        }
        PatternDesk empty = Check.desk("", "", "");
        Check.due("the empty text has one place", empty.find(0, 1), 1);
        PatternDesk none = Check.desk("[]", "", "aa");
        Check.due("no match", none.find(0, 99), 0);
        Check.due("three places were tried", none.steps(), 6);
        Check.due("no match", none.find(2, 99), 0);
        Check.due("one place was tried", none.steps(), 2);
    }

    private static void findFuel() {
        Check.sentence("find: with so much fuel for all of that");
        PatternDesk desk = Check.desk("b", "", "aaab");
        Check.due("two steps for each of four places", desk.find(0, 8), 1);
        Check.due("steps", desk.steps(), 8);
        for (int fuel = 1; fuel < 8; fuel++) {
            Check.due("find with " + fuel, desk.find(0, fuel), 2);
            Check.due("steps", desk.steps(), fuel);
            Check.state("group", () -> desk.group(0, false));
        }
        PatternDesk none = Check.desk("c", "", "aaab");
        Check.due("ten for all five places", none.find(0, 10), 0);
        Check.due("nine are spent", none.find(0, 9), 2);
        Check.due("eight are spent at the end", none.find(0, 8), 2);
    }

    private static void findAsMatch() {
        Check.sentence("find: as match");
        PatternDesk desk = Check.desk("(a)", "", "ba");
        Check.due("find", desk.find(0, 10000), 1);
        // Two alternatives and a unit at each of two places.
        Check.due("steps", desk.steps(), 6);
        for (int from : new int[] {-1, 3, Integer.MIN_VALUE, Integer.MAX_VALUE}) {
            Check.argument("find from " + from, () -> desk.find(from, 9));
        }
        for (int fuel : new int[] {0, -1, 10001, Integer.MIN_VALUE, Integer.MAX_VALUE}) {
            Check.argument("find with " + fuel, () -> desk.find(0, fuel));
        }
        Check.due("the result stays", desk.group(1, false), 1);
        Check.due("steps stay", desk.steps(), 6);
        Check.due("no match at the text's length", desk.find(2, 9), 0);
        Check.state("the result goes", () -> desk.group(0, false));
        Check.due("find", desk.find(1, 9), 1);
        Check.due("spent", desk.find(0, 1), 2);
        Check.state("the result goes", () -> desk.group(0, false));
        PatternDesk bare = new PatternDesk();
        Check.argument("no place, no pattern", () -> bare.find(1, 9));
        Check.argument("no fuel, no pattern", () -> bare.find(0, 0));
        Check.state("no pattern", () -> bare.find(0, 9));
        Check.due("steps", bare.steps(), 0);
    }

    private static void groupPlaces() {
        Check.sentence("group: Where group k (0 the whole match) begins, or (end) the place behind it");
        PatternDesk desk = Check.desk("b(a*)(?=(c))()", "", Check.repeat("x", 300) + "b" + Check.repeat("a", 298) + "c");
        Check.due("find", desk.find(0, 10000), 1);
        int[] begins = {300, 301, 599, 599};
        int[] ends = {599, 599, 600, 599};
        for (int k = 0; k < 4; k++) {
            Check.due("begin of " + k, desk.group(k, false), begins[k]);
            Check.due("end of " + k, desk.group(k, true), ends[k]);
        }
        Check.sentence("group: -1 when it was not come to");
        PatternDesk other = Check.desk("(a)|(b)|(?!(c))(?:(d)|.)*(?:(e)x)?", "", "bdze");
        Check.due("match", other.match(0, 99), 1);
        for (int k : new int[] {1, 3, 4, 5}) {
            Check.due("begin of " + k, other.group(k, false), -1);
            Check.due("end of " + k, other.group(k, true), -1);
        }
        Check.due("match", other.match(1, 99), 1);
        for (int k = 1; k <= 5; k++) {
            Check.due("begin of " + k, other.group(k, false), -1);
            Check.due("end of " + k, other.group(k, true), -1);
        }
    }

    private static void groupsOfAll() {
        Check.sentence("group: Where group k .. begins, or (end) the place behind it; -1 when it was not come to (all 20 of them)");
        String text = "abcdefghijklmnopqrstuvwxyz";
        PatternDesk desk = Check.desk(Check.repeat("(.)", 19) + "(?:(.)|$)", "", text);
        for (int at = 0; at <= 7; at++) {
            Check.due("match at " + at, desk.match(at, 99), 1);
            Check.due("begin of all", desk.group(0, false), at);
            Check.due("end of all", desk.group(0, true), Math.min(at + 20, 26));
            for (int k = 1; k <= 20; k++) {
                boolean come = at + k <= 26;
                Check.due("begin of " + k, desk.group(k, false), come ? at + k - 1 : -1);
                Check.due("end of " + k, desk.group(k, true), come ? at + k : -1);
            }
        }
        Check.due("no match", desk.match(8, 99), 0);
    }

    private static void groupNumbers() {
        Check.sentence("group: IllegalArgumentException: there is no such group");
        for (int groups : new int[] {0, 1, 19, 20}) {
            PatternDesk desk = Check.desk(Check.repeat("()", groups), "", "");
            Check.due("match", desk.match(0, 99), 1);
            Check.due("the last group", desk.group(groups, true), 0);
            Check.due("the whole match", desk.group(0, true), 0);
            for (int k : new int[] {-1, -2, groups + 1, groups + 2, 21, 100}) {
                Check.argument("group " + k, () -> desk.group(k, false));
                Check.argument("group " + k, () -> desk.group(k, true));
            }
            for (int k : FAR) {
                Check.argument("group " + k, () -> desk.group(k, false));
                Check.argument("group " + k, () -> desk.group(k, true));
            }
        }
    }

    private static void groupOrder() {
        Check.sentence("group: IllegalStateException: there is no result (this first)");
        PatternDesk desk = new PatternDesk();
        String[] patterns = {"()", "(", "()"};
        int[] numbers = {0, 1, -1, 2, Integer.MIN_VALUE, Integer.MAX_VALUE};
        for (String pattern : patterns) {
            for (int k : numbers) {
                Check.state("group " + k, () -> desk.group(k, false));
                Check.state("group " + k, () -> desk.group(k, true));
            }
            Check.tell(desk, pattern);
            if (pattern.equals("()")) {
                Check.due("pattern", desk.pattern(false, false), 1);
                Check.due("spent", desk.match(0, 1), 2);
            } else {
                Check.argument("pattern", () -> desk.pattern(false, false));
            }
        }
        for (int k : numbers) {
            Check.state("group " + k, () -> desk.group(k, true));
        }
        Check.due("match", desk.match(0, 9), 1);
        Check.argument("group 2", () -> desk.group(2, true));
        Check.due("group 1", desk.group(1, true), 0);
    }

    private static void steps() {
        Check.sentence("steps: 0 when there was none");
        PatternDesk desk = new PatternDesk();
        Check.due("steps", desk.steps(), 0);
        Check.tell(desk, "a");
        desk.pattern(false, false);
        Check.tell(desk, "ba");
        desk.text();
        Check.argument("match", () -> desk.match(0, 0));
        Check.argument("find", () -> desk.find(3, 9));
        Check.due("steps", desk.steps(), 0);
        Check.sentence("steps: How many steps the latest match or find did");
        Check.due("find", desk.find(0, 9), 1);
        Check.due("steps", desk.steps(), 4);
        Check.due("steps, asked again", desk.steps(), 4);
        Check.due("match", desk.match(0, 9), 0);
        Check.due("steps", desk.steps(), 2);
        Check.due("spent", desk.find(0, 3), 2);
        Check.due("steps", desk.steps(), 3);
        Check.due("spent", desk.match(0, 1), 2);
        Check.due("steps", desk.steps(), 1);
    }
}
