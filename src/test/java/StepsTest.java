/** Promise 9: how many steps the latest match or find did. */
public final class StepsTest {
    public static void main(String[] args) {
        Check.takesSteps("", "", "a", 1);
        Check.takesSteps("a", "", "a", 2);
        Check.takesSteps("a", "", "", 2);
        Check.takesSteps("ab", "", "b", 2);
        Check.takesSteps("a|b|c", "", "c", 6);
        Check.takesSteps("a|b|", "", "c", 5);
        Check.takesSteps("(a)", "", "a", 3);
        Check.takesSteps("(?:a)", "", "a", 3);
        Check.takesSteps("()", "", "a", 2);
        Check.takesSteps("(|)", "", "a", 2);
        Check.takesSteps(".\\d[a][^a]", "", "a1ab", 5);
        Check.takesSteps("^$\\b\\B", "", "", 4);
        Check.takesSteps("^$\\B", "", "", 4);
        Check.takesSteps("(?=a)a", "", "a", 4);
        Check.takesSteps("(?!a)a", "", "a", 3);
        Check.takesSteps("(?!a)b", "", "b", 4);
        Check.takesSteps("\\1(a)\\1", "", "aa", 5);
        // The alternative, the quantifier; then a unit and a repetition that is through.
        Check.takesSteps("a*", "", "", 3);
        Check.takesSteps("a*", "", "aa", 7);
        Check.takesSteps("a*?", "", "aa", 2);
        Check.takesSteps("a*?$", "", "aa", 9);
        Check.takesSteps("a{0}", "", "aa", 2);
        Check.takesSteps("a{2}", "", "aa", 6);
        Check.takesSteps("a{1,2}", "", "aaa", 6);
        Check.takesSteps("a??b", "", "ab", 6);
        Check.takesSteps("(?:){3}", "", "", 8);
        Check.takesSteps("(?:){1000}x", "", "aab", 2003);
        // One repetition takes nothing: it is none, and no step of its own.
        Check.takesSteps("(?:)*", "", "", 3);
        Check.takesSteps("(?:){1,}", "", "", 5);
        Check.takesSteps("(a*)*", "", "b", 5);
        Check.takesSteps("(|a){3}b", "", "aab", 23);
        latest();
        Check.end();
    }

    private static void latest() {
        PatternDesk desk = Check.desk("a*b", "", "aac");
        Check.due("steps before any match", desk.steps(), 0);
        Check.due("match", desk.match(0, 99), 0);
        Check.due("steps of a match", desk.steps(), 10);
        Check.argument("match that throws", () -> desk.match(0, 0));
        Check.due("steps stay when it throws", desk.steps(), 10);
        Check.due("find", desk.find(2, 99), 0);
        Check.due("steps of a find", desk.steps(), 8);
        Check.due("match that is spent", desk.match(0, 5), 2);
        Check.due("steps when it is spent", desk.steps(), 5);
        Check.tell(desk, "(");
        Check.argument("a wrong pattern", () -> desk.pattern(false, false));
        Check.due("steps stay", desk.steps(), 5);
        Check.state("match without a pattern", () -> desk.match(0, 5));
        Check.due("steps stay without a pattern", desk.steps(), 5);
    }
}
