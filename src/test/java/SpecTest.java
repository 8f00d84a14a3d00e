/** Promises 3, 4 and 6 to 9 on patterns by chance (always the same ones), against the standard's own words in Spec. */
public final class SpecTest {
    private static final int RUNS = 60000;

    private final Chance chance = new Chance(15102);
    private int rightOnes = 0;
    private int matched = 0;
    private int spent = 0;
    private static volatile boolean ended = false;

    public static void main(String[] args) throws InterruptedException {
        // The closures of Spec stand as deep as a match has steps.
        Thread thread = new Thread(null, () -> new SpecTest().run(), "spec", 1L << 30);
        thread.start();
        thread.join();
        Check.due("all was compared", ended ? 1 : 0, 1);
        Check.end();
    }

    private void run() {
        PatternDesk desk = new PatternDesk();
        for (int i = 0; i < RUNS; i++) {
            // Four patterns with all their groups take an object's 512 calls.
            if (i % 4 == 0) {
                desk = new PatternDesk();
            }
            compare(desk, chance.pattern(i % 4), chance.text());
        }
        dearest();
        System.out.println(rightOnes + " right patterns, " + matched + " matches, " + spent + " spent");
        Check.due("there were enough right patterns", rightOnes > RUNS / 4 ? 1 : 0, 1);
        Check.due("there were enough matches", matched > RUNS / 10 ? 1 : 0, 1);
        Check.due("there were enough spent ones", spent > RUNS / 100 ? 1 : 0, 1);
        ended = true;
    }

    private void compare(PatternDesk desk, String pattern, String text) {
        boolean ignoring = chance.either();
        boolean lines = chance.either();
        String what = Check.shown(pattern) + (ignoring ? "i" : "") + (lines ? "m" : "") + " on " + Check.shown(text);
        Spec spec = null;
        int place = -1;
        try {
            spec = new Spec(pattern, ignoring, lines);
        } catch (Spec.Wrong wrong) {
            place = wrong.place;
        }
        Check.tell(desk, pattern);
        int groups = -1;
        try {
            groups = desk.pattern(ignoring, lines);
        } catch (IllegalArgumentException e) {
            groups = -1;
        }
        Check.due("place of " + what, desk.place(), place);
        Check.due("groups of " + what, groups, spec == null ? -1 : spec.groups);
        Check.tell(desk, text);
        Check.due("length", desk.text(), text.length());
        if (spec != null && groups >= 0) {
            rightOnes++;
            compareMatch(desk, spec, text, what);
        }
    }

    private void compareMatch(PatternDesk desk, Spec spec, String text, String what) {
        int from = chance.below(text.length() + 1);
        int[] fuels = {1 + chance.below(10), 1 + chance.below(60), 1000};
        compareTry(desk, spec, text, what, from, fuels[chance.below(3)], chance.either());
    }

    /** Patterns that leave the most choices, or change groups the most, in all the fuel that there is. */
    private void dearest() {
        String text = Check.repeat("a", 600);
        String[] patterns = {"(a*)*b", "(?:|){20000}", "(?:a|){9999}", "(?:(?!|)|(?=|)){9999}", "(?:a*)*?b",
            within("(?:", Check.repeat("()", 20), "){9999}b", 1), within("(?:", Check.repeat("(|)", 20), "){9999}b", 1),
            within("(?:", Check.repeat("()", 20), "){450}", 1), within("(?:", Check.repeat("(|)", 20), "){450}b?", 1),
            within("(?:", within("(", "a*", ")", 20), ")*", 20) + "b", within("(?:", "|", ")*?", 30) + "b",
            within("(?!|", "", ")", 38) + "a*b", "(?:(?=(a*))\\1?){9999}b", "(?:" + within("(", "", ")", 20) + "){9999}b",
            "(?:" + Check.repeat("(|)", 20) + Check.repeat("(?:|)", 23) + "|){201}(?=a{99})b", Check.repeat("(a)?", 20) + "(?:a*)*b",
            Check.repeat("a?", 100), Check.repeat("a*", 99) + "b", within("(?=", "", ")", 40) + "(?:)*", "(?:(a)|(b)|(?=(a))){600}.*$"};
        for (String pattern : patterns) {
            Spec spec = new Spec(pattern, true, false);
            for (int fuel : new int[] {100, 9999, 10000}) {
                PatternDesk desk = Check.desk(pattern, "i", text);
                compareTry(desk, spec, text, pattern, 0, fuel, false);
                compareTry(desk, spec, text, pattern, 100, fuel, true);
            }
        }
    }

    private static String within(String open, String inner, String close, int times) {
        return Check.repeat(open, times) + inner + Check.repeat(close, times);
    }

    private void compareTry(PatternDesk desk, Spec spec, String text, String what, int from, int fuel, boolean finding) {
        String due;
        try {
            int[][] captures = spec.find(text, from, finding ? text.length() : from, fuel);
            due = captures == null ? "0" : shown(captures);
            matched += captures == null ? 0 : 1;
        } catch (Spec.Spent e) {
            due = "2";
            spent++;
        }
        String call = what + (finding ? " found from " : " matched at ") + from + " with " + fuel;
        Check.same(call, Check.result(desk, finding ? desk.find(from, fuel) : desk.match(from, fuel)), due);
        Check.due("steps of " + call, desk.steps(), spec.steps);
    }

    private static String shown(int[][] captures) {
        StringBuilder all = new StringBuilder("1");
        for (int[] capture : captures) {
            all.append(' ').append(capture == null ? "-" : capture[0] + "," + capture[1]);
        }
        return all.toString();
    }
}
