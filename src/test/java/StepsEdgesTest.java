/** Each sentence of the terms on what a step is, by itself. */
public final class StepsEdgesTest {
    public static void main(String[] args) {
        tests();
        alternatives();
        comeTo();
        through();
        takenForNone();
        maxZero();
        looks();
        noStep();
        spent();
        fullFuel();
        Check.end();
    }

    private static void tests() {
        Check.sentence("each time that a unit, a ., a set, class, back reference, or one of ^ $ \\b \\B is tried at a place");
        // The only alternative is the first step of each.
        for (String atom : new String[] {"a", ".", "\\w", "\\W", "[a]", "[^a]", "[]", "[^]", "^", "$", "\\b", "\\B", "\\0", "\\x61"}) {
            Check.takesSteps(atom, "", "a", 2);
            Check.takesSteps(atom, "", "", 2);
            Check.takesSteps(atom, "im", "-", 2);
        }
        Check.takesSteps("abc", "", "abc", 4);
        Check.takesSteps("abc", "", "abd", 4);
        Check.takesSteps("abc", "", "ad", 3);
        Check.takesSteps("abc", "", "d", 2);
        // A back reference is one step, however long it is.
        Check.takesSteps("\\1()", "", "", 3);
        Check.takesSteps("()\\1", "", "", 3);
        Check.takesSteps("(abcd)\\1", "", "abcdabcd", 7);
        Check.takesSteps("(abcd)\\1", "", "abcdabcx", 7);
        Check.takesSteps("(abcd)\\1", "", "abcda", 7);
    }

    private static void alternatives() {
        Check.sentence("each time that an alternative is begun (of the only one, too)");
        Check.takesSteps("", "", "", 1);
        Check.takesSteps("|", "", "", 1);
        Check.takesSteps("[]|", "", "", 3);
        Check.takesSteps("[]|[]", "", "", 4);
        Check.takesSteps("||[]", "", "", 1);
        Check.takesSteps("(?:)", "", "", 2);
        Check.takesSteps("()", "", "", 2);
        Check.takesSteps("(?:|)[]", "", "", 5);
        Check.takesSteps("(?:||)[]", "", "", 7);
        Check.takesSteps("(((())))", "", "", 5);
        Check.takesSteps(Check.repeat("(?:", 40) + Check.repeat(")", 40), "", "", 41);
        Check.takesSteps(Check.repeat("[]|", 66) + "[]", "", "", 134);
    }

    private static void comeTo() {
        Check.sentence("each time that what has a quantifier is come to");
        Check.takesSteps("a*", "", "", 3);
        Check.takesSteps("a*?", "", "", 2);
        Check.takesSteps("a?", "", "", 3);
        Check.takesSteps("a??", "", "", 2);
        Check.takesSteps("a+", "", "", 3);
        Check.takesSteps("a{5}", "", "", 3);
        Check.takesSteps("a*?b*?", "", "", 3);
        // Twice an empty alternative, the quantifier, the class and the a.
        Check.takesSteps("(?:|)a*?[]", "", "", 9);
    }

    private static void through() {
        Check.sentence("each time that one repetition of it is through .., whether it then goes on or ends");
        Check.takesSteps("a*", "", "a", 5);
        Check.takesSteps("a*", "", "aa", 7);
        Check.takesSteps("a?", "", "a", 4);
        Check.takesSteps("a{1}", "", "a", 4);
        Check.takesSteps("a{2}", "", "aa", 6);
        Check.takesSteps("a{1,2}", "", "aa", 6);
        Check.takesSteps("a{1,2}", "", "a", 5);
        Check.takesSteps("a{1,2}?", "", "aa", 4);
        Check.takesSteps("a+", "", "a", 5);
        Check.takesSteps("a+?", "", "aa", 4);
        Check.takesSteps("a??b", "", "ab", 6);
        // Twice an alternative, a, b and the end; then an alternative and the a that fails.
        Check.takesSteps("(?:ab)*", "", "abab", 12);
        // A needed repetition that takes nothing is through, too.
        Check.takesSteps("(?:){1}", "", "", 4);
        Check.takesSteps("(?:){3}", "", "", 8);
    }

    private static void takenForNone() {
        Check.sentence("(and is not taken for none)");
        Check.takesSteps("(?:)*", "", "", 3);
        Check.takesSteps("(?:)?", "", "", 3);
        Check.takesSteps("(?:){0,5}", "", "", 3);
        Check.takesSteps("(?:)+", "", "", 5);
        Check.takesSteps("(?:){2,}", "", "", 7);
        Check.takesSteps("(?:a*)*", "", "", 5);
        Check.takesSteps("(?:|)*", "", "", 4);
    }

    private static void maxZero() {
        Check.sentence("(so each time that 15.10.2.5 calls RepeatMatcher, also when its max is 0)");
        Check.takesSteps("a{0}", "", "a", 2);
        Check.takesSteps("a{0,0}", "", "a", 2);
        Check.takesSteps("a{0}?", "", "a", 2);
        Check.takesSteps("(?:(?:)*){0}", "", "", 2);
        Check.takesSteps("a?", "", "a", 4);
        Check.takesSteps("a{3}", "", "aaa", 8);
        Check.takesSteps("(?:a{0}){2}", "", "", 8);
    }

    private static void looks() {
        Check.sentence("STEPS: .. (a look ahead is none by itself, what is tried in it is)");
        Check.takesSteps("(?=)", "", "", 2);
        Check.takesSteps("(?!)", "", "", 2);
        Check.takesSteps("(?=a)", "", "a", 3);
        Check.takesSteps("(?!a)", "", "b", 3);
        Check.takesSteps("(?=a|b)b", "", "b", 6);
        Check.takesSteps("(?=|a|a)[]", "", "a", 3);
        Check.takesSteps("(?!|a|a)[]", "", "a", 2);
    }

    private static void noStep() {
        Check.sentence("STEPS: .. (going back to an alternative or a repetition is none by itself)");
        Check.takesSteps("a*b", "", "aa", 10);
        Check.takesSteps("a*?b", "", "aa", 10);
        Check.takesSteps("(?:a|a)b", "", "a", 7);
        Check.takesSteps("(a?)(a?)b", "", "a", 15);
    }

    private static void spent() {
        Check.sentence("What would be one step more than the fuel is not done: the match is SPENT then, without a result");
        PatternDesk desk = Check.desk("(a*)b", "", Check.repeat("a", 50) + "b");
        Check.due("match", desk.match(0, 10000), 1);
        int all = desk.steps();
        Check.due("two alternatives, the quantifier, 50 and a failing a, 50 ends, the b", all, 2 + 1 + 51 + 50 + 1);
        for (int fuel = 1; fuel <= all + 1; fuel++) {
            Check.due("match with " + fuel, desk.match(0, fuel), fuel < all ? 2 : 1);
            Check.due("steps with " + fuel, desk.steps(), Math.min(fuel, all));
            if (fuel < all) {
                Check.state("group with " + fuel, () -> desk.group(0, false));
            } else {
                Check.due("group with " + fuel, desk.group(1, true), 50);
            }
        }
        PatternDesk one = Check.desk("", "", "");
        Check.due("one step and no more", one.match(0, 1), 1);
        PatternDesk two = Check.desk("[]", "", "");
        Check.due("no match with just the fuel", two.match(0, 2), 0);
        Check.due("spent before it is seen", two.match(0, 1), 2);
    }

    private static void fullFuel() {
        Check.sentence("fuel .. 10,000 (all of it, and one step more)");
        PatternDesk desk = Check.desk("(?:){4999}", "", "");
        Check.due("just all of it", desk.match(0, 10000), 1);
        Check.due("steps", desk.steps(), 10000);
        PatternDesk more = Check.desk("(?:){4999}^", "", "");
        Check.due("one step more", more.match(0, 10000), 2);
        Check.due("steps", more.steps(), 10000);
        PatternDesk long1 = Check.desk("(?:|a)*b", "", Check.repeat("a", 600));
        Check.due("a find", long1.find(0, 10000), 2);
        Check.due("steps", long1.steps(), 10000);
        PatternDesk endless = Check.desk("(?:(?:a*)*)*b", "", Check.repeat("a", 600));
        Check.due("a match", endless.match(0, 10000), 2);
        Check.due("steps", endless.steps(), 10000);
        PatternDesk great = Check.desk("(?:){99999999999999999999}", "", "");
        Check.due("more repetitions than fuel", great.match(0, 10000), 2);
        Check.due("steps", great.steps(), 10000);
    }
}
