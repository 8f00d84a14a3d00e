/** Counts wrong answers, and tells units to a desk as Java strings. */
final class Check {
    static final int NOTHING = 0;
    static final int ARGUMENT = 1;
    static final int STATE = 2;

    private static int wrong = 0;
    private static int asked = 0;
    private static int sentences = 0;
    private static int askedBefore = -1;
    private static String sentence = "";

    interface Call {
        long run();
    }

    interface Has {
        boolean test(int unit);
    }

    private Check() {
    }

    /** All that is asked from here on is about these words of the document; each must be asked about. */
    static void sentence(String words) {
        endSentence();
        sentence = words;
        sentences++;
        askedBefore = asked;
    }

    private static void endSentence() {
        if (askedBefore == asked) {
            wrong++;
            System.out.println("nothing was asked about: " + sentence);
        }
    }

    static void due(String what, long got, long want) {
        asked++;
        if (got != want) {
            tellWrong(what + " answered " + got + ", due is " + want);
        }
    }

    private static void tellWrong(String what) {
        wrong++;
        System.out.println(sentence.isEmpty() ? what : "\"" + sentence + "\": " + what);
    }

    static void argument(String what, Call call) {
        due(what + " throws (1 IllegalArgumentException, 2 IllegalStateException)", thrown(call), ARGUMENT);
    }

    static void state(String what, Call call) {
        due(what + " throws (1 IllegalArgumentException, 2 IllegalStateException)", thrown(call), STATE);
    }

    private static int thrown(Call call) {
        try {
            call.run();
            return NOTHING;
        } catch (IllegalArgumentException e) {
            return ARGUMENT;
        } catch (IllegalStateException e) {
            return STATE;
        }
    }

    static void end() {
        endSentence();
        String about = sentences == 0 ? "" : " about " + sentences + " sentences";
        System.out.println(wrong == 0 ? "all " + asked + " answers" + about + " are as due" : wrong + " answers are not as due");
        if (wrong != 0) {
            System.exit(1);
        }
    }

    static void tell(PatternDesk desk, String units) {
        for (int i = 0; i < units.length(); i += 4) {
            int n = Math.min(4, units.length() - i);
            long packed = 0;
            for (int k = 0; k < n; k++) {
                packed = packed << 16 | units.charAt(i + k);
            }
            desk.put(packed, n);
        }
    }

    /** A desk with a pattern and a text; flags has i for ignoring case, m for many lines. */
    static PatternDesk desk(String pattern, String flags, String text) {
        PatternDesk desk = new PatternDesk();
        tell(desk, pattern);
        desk.pattern(flags.indexOf('i') >= 0, flags.indexOf('m') >= 0);
        tell(desk, text);
        desk.text();
        return desk;
    }

    /** Where the pattern is wrong, -1 when it is right; also looks that pattern() throws just when it is wrong. */
    static int placeOf(String pattern) {
        PatternDesk desk = new PatternDesk();
        tell(desk, pattern);
        int thrown = thrown(() -> desk.pattern(false, false));
        due("pattern " + shown(pattern) + " throws", thrown, desk.place() < 0 ? NOTHING : ARGUMENT);
        return desk.place();
    }

    static void right(String pattern, int groups) {
        PatternDesk desk = new PatternDesk();
        tell(desk, pattern);
        int[] got = {-1};
        due("pattern " + shown(pattern) + " throws", thrown(() -> got[0] = desk.pattern(false, false)), NOTHING);
        due("pattern " + shown(pattern), got[0], groups);
        due("place of " + shown(pattern), desk.place(), -1);
    }

    static void wrong(String pattern, int place) {
        due("place of " + shown(pattern), placeOf(pattern), place);
    }

    /** What match answers at a place, as result:begin,end of each group; - for one that was not come to. */
    static void matches(String pattern, String flags, String text, int at, String want) {
        PatternDesk desk = desk(pattern, flags, text);
        same(shown(pattern) + "/" + flags + " at " + at + " of " + shown(text), result(desk, desk.match(at, 10000)), want);
    }

    static void finds(String pattern, String flags, String text, int from, String want) {
        PatternDesk desk = desk(pattern, flags, text);
        same(shown(pattern) + "/" + flags + " from " + from + " of " + shown(text), result(desk, desk.find(from, 10000)), want);
    }

    static void takesSteps(String pattern, String flags, String text, int steps) {
        PatternDesk desk = desk(pattern, flags, text);
        int answer = desk.match(0, 10000);
        String what = "steps of " + shown(pattern) + "/" + flags + " on " + shown(text);
        due(what, desk.steps(), steps);
        due(what + " with just that fuel", desk.match(0, steps), answer);
        if (steps > 1) {
            due(what + " with one less", desk.match(0, steps - 1), 2);
            due(what + " when spent", desk.steps(), steps - 1);
            state(what + ": group when spent", () -> desk.group(0, false));
        }
    }

    /** Tries a pattern at each unit of 0 .. 65535, as many of them on one desk as 512 calls allow. */
    static void takes(String pattern, String flags, Has has) {
        int size = 380;
        for (int from = 0; from < 65536; from += size) {
            StringBuilder text = new StringBuilder();
            for (int unit = from; unit < from + size && unit < 65536; unit++) {
                text.append((char) unit);
            }
            PatternDesk desk = desk(pattern, flags, text.toString());
            for (int at = 0; at < text.length(); at++) {
                int got = desk.match(at, 10000);
                int want = has.test(from + at) ? 1 : 0;
                // The words are made only where they are told: there are millions of these answers.
                due(got == want ? "" : shown(pattern) + "/" + flags + " on unit " + (from + at), got, want);
            }
        }
    }

    static String result(PatternDesk desk, int answer) {
        if (answer != 1) {
            return Integer.toString(answer);
        }
        StringBuilder all = new StringBuilder("1");
        for (int k = 0; k <= 20; k++) {
            int number = k;
            if (thrown(() -> desk.group(number, false)) != NOTHING) {
                break;
            }
            int begin = desk.group(k, false);
            int end = desk.group(k, true);
            all.append(' ').append(begin == -1 && end == -1 ? "-" : begin + "," + end);
        }
        return all.toString();
    }

    static void same(String what, String got, String want) {
        asked++;
        if (!got.equals(want)) {
            tellWrong(what + " answered " + got + ", due is " + want);
        }
    }

    static String repeat(String part, int times) {
        return part.repeat(times);
    }

    static String shown(String units) {
        StringBuilder all = new StringBuilder("'");
        for (int i = 0; i < units.length(); i++) {
            char unit = units.charAt(i);
            all.append(unit >= ' ' && unit < 127 ? String.valueOf(unit) : String.format("<%d>", (int) unit));
        }
        return all.append("'").toString();
    }
}
