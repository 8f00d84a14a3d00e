/** Promise 7: tries the places from one on, with fuel for all of them. */
public final class FindTest {
    public static void main(String[] args) {
        Check.finds("b", "", "abab", 0, "1 1,2");
        Check.finds("b", "", "abab", 1, "1 1,2");
        Check.finds("b", "", "abab", 2, "1 3,4");
        Check.finds("b", "", "abab", 4, "0");
        Check.finds("$", "", "abab", 0, "1 4,4");
        Check.finds("", "", "abab", 4, "1 4,4");
        Check.finds("(a)|(b)", "", "ba", 0, "1 0,1 - 0,1");
        Check.finds("(?:(x)y)?b", "", "xxb", 0, "1 2,3 -");
        fuelForAll();
        wrongOnes();
        manyFinds();
        Check.end();
    }

    /** Nothing may pile up from one place or one call to the next. */
    private static void manyFinds() {
        PatternDesk desk = Check.desk("(a)(a)(a)b", "", Check.repeat("a", 600));
        for (int i = 0; i < 60; i++) {
            Check.due("find", desk.find(0, 10000), 0);
            // Eight steps at each place; fewer where the text ends.
            Check.due("steps", desk.steps(), 598 * 8 + 7 + 5 + 3);
        }
        Check.tell(desk, "(?:(a)|aa)c");
        desk.pattern(false, false);
        Check.tell(desk, "aac");
        desk.text();
        Check.due("match", desk.match(0, 99), 1);
        Check.due("a group that was gone back from", desk.group(1, false), -1);
    }

    private static void fuelForAll() {
        PatternDesk desk = Check.desk("ab", "", "aaab");
        Check.due("find", desk.find(0, 9), 1);
        // An alternative, a and a failing b at 0 and 1; then all of it at 2.
        Check.due("steps of all places", desk.steps(), 9);
        Check.due("begin", desk.group(0, false), 2);
        Check.due("find with one step less", desk.find(0, 8), 2);
        Check.due("steps when spent", desk.steps(), 8);
        Check.state("a spent find has no result", () -> desk.group(0, false));
        Check.due("find behind it", desk.find(3, 99), 0);
        Check.due("steps, the text's end too", desk.steps(), 4);
        Check.due("no match with just the fuel", desk.find(3, 4), 0);
        Check.due("spent at the text's end", desk.find(3, 3), 2);
        Check.due("spent before the text's end", desk.find(3, 2), 2);
        Check.state("no match has no result", () -> desk.group(0, false));
        Check.due("match does not go on", desk.match(0, 99), 0);
    }

    private static void wrongOnes() {
        PatternDesk desk = Check.desk("(a)", "", "ba");
        Check.due("find", desk.find(0, 99), 1);
        int steps = desk.steps();
        for (int from : new int[] {-1, 3, Integer.MIN_VALUE, Integer.MAX_VALUE}) {
            Check.argument("find from " + from, () -> desk.find(from, 99));
        }
        for (int fuel : new int[] {0, -1, 10001, Integer.MIN_VALUE, Integer.MAX_VALUE}) {
            Check.argument("find with fuel " + fuel, () -> desk.find(0, fuel));
        }
        Check.due("the result stays", desk.group(1, false), 1);
        Check.due("steps stay", desk.steps(), steps);
        PatternDesk bare = new PatternDesk();
        Check.argument("the place is looked at before the pattern", () -> bare.find(1, 99));
        Check.argument("the fuel is looked at before the pattern", () -> bare.find(0, 0));
        Check.state("there is no pattern", () -> bare.find(0, 10000));
    }
}
