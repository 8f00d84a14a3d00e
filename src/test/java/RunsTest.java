/** All promises together: runs of 512 calls by chance (always the same ones), against a model that is made of Spec. */
public final class RunsTest {
    private static final int OBJECTS = 1500;
    private static final int CALLS = 512;
    private static final int[] ODD = {Integer.MIN_VALUE, -2, -1, 0, 1, 2, 4, 5, 20, 21, 199, 200, 201, 599, 600, 601, 9999, 10000,
        10001, 65536, Integer.MAX_VALUE};
    private static final int PUT = 0;
    private static final int PATTERN = 1;
    private static final int TEXT = 2;
    private static final int PLACE = 3;
    private static final int GROUP = 4;
    private static final int MATCH = 5;
    private static final int FIND = 6;
    private static final int STEPS = 7;
    private static final int KINDS = 8;
    private static final int[] OTHERS = {PLACE, GROUP, MATCH, MATCH, MATCH, FIND, FIND, FIND, STEPS};

    /** What the document says of an object, as plainly as can be. */
    private static final class Model {
        private final StringBuilder told = new StringBuilder();
        private String text = "";
        private Spec spec = null;
        private int[][] result = null;
        private int wrongPlace = -1;
        private int lastSteps = 0;

        int put(long units, int n) {
            if (n < 1 || n > 4) {
                throw new IllegalArgumentException();
            }
            if (told.length() + n > 600) {
                throw new IllegalStateException();
            }
            for (int i = n - 1; i >= 0; i--) {
                told.append((char) (units >> 16 * i));
            }
            return told.length();
        }

        private String takeTold() {
            String all = told.toString();
            told.setLength(0);
            result = null;
            return all;
        }

        int pattern(boolean ignoring, boolean lines) {
            String all = takeTold();
            spec = null;
            wrongPlace = 200;
            if (all.length() <= 200) {
                try {
                    spec = new Spec(all, ignoring, lines);
                    wrongPlace = -1;
                } catch (Spec.Wrong wrong) {
                    wrongPlace = wrong.place;
                }
            }
            if (spec == null) {
                throw new IllegalArgumentException();
            }
            return spec.groups;
        }

        int text() {
            text = takeTold();
            return text.length();
        }

        int search(int from, boolean finding, int fuel) {
            if (from < 0 || from > text.length() || fuel < 1 || fuel > 10000) {
                throw new IllegalArgumentException();
            }
            if (spec == null) {
                throw new IllegalStateException();
            }
            result = null;
            try {
                result = spec.find(text, from, finding ? text.length() : from, fuel);
                return result == null ? 0 : 1;
            } catch (Spec.Spent spent) {
                return 2;
            } finally {
                lastSteps = spec.steps;
            }
        }

        int group(int k, boolean end) {
            if (result == null) {
                throw new IllegalStateException();
            }
            if (k < 0 || k >= result.length) {
                throw new IllegalArgumentException();
            }
            return result[k] == null ? -1 : result[k][end ? 1 : 0];
        }
    }

    private static volatile boolean ended = false;

    private final Chance chance = new Chance(512);
    private final int[] answered = new int[KINDS];
    private final int[] thrown = new int[KINDS];
    private PatternDesk desk;
    private Model model;
    private StringBuilder run;
    private int calls;

    public static void main(String[] args) throws InterruptedException {
        // The closures of Spec stand as deep as a match has steps.
        Thread thread = new Thread(null, () -> new RunsTest().runAll(), "runs", 1L << 30);
        thread.start();
        thread.join();
        Check.due("all runs came to their end", ended ? 1 : 0, 1);
        Check.end();
    }

    private void runAll() {
        for (int i = 0; i < OBJECTS; i++) {
            desk = new PatternDesk();
            model = new Model();
            run = new StringBuilder();
            calls = 0;
            while (calls < CALLS) {
                callSome();
            }
        }
        for (int kind = 0; kind < KINDS; kind++) {
            boolean neverThrows = kind == TEXT || kind == PLACE || kind == STEPS;
            Check.due("calls of kind " + kind + " answered often", answered[kind] > OBJECTS ? 1 : 0, 1);
            Check.due("calls of kind " + kind + " threw often", thrown[kind] > OBJECTS ? 1 : 0, neverThrows ? 0 : 1);
        }
        ended = true;
    }

    /** Tells units and mostly takes them as a pattern or text, or makes one of the other calls. */
    private void callSome() {
        int way = chance.below(100);
        if (way == 0) {
            tell(chance.pattern(3).repeat(1 + chance.below(40)));
        } else if (way <= 14) {
            tell(chance.pattern(chance.below(10)));
        } else if (way == 15) {
            tell((chance.text() + "a").repeat(1 + chance.below(60)));
        } else if (way <= 25) {
            tell(chance.text());
        } else if (way == 26) {
            put(chance.any(), odd());
            return;
        } else {
            callOther();
            return;
        }
        if (chance.below(20) != 0) {
            callKind(way <= 14 != (chance.below(20) == 0) ? PATTERN : TEXT);
        }
    }

    private void callOther() {
        callKind(OTHERS[chance.below(OTHERS.length)]);
    }

    /** Some units more by each call, with whatever stands above them. */
    private void tell(String units) {
        int from = 0;
        while (from < units.length()) {
            int n = Math.min(units.length() - from, chance.below(5) == 0 ? 1 + chance.below(4) : 4);
            long packed = chance.below(3) == 0 ? chance.any() : 0;
            for (int i = 0; i < n; i++) {
                packed = packed << 16 | units.charAt(from + i);
            }
            put(packed, n);
            from += n;
            if (chance.below(20) == 0) {
                callOther();
            }
        }
    }

    private void put(long units, int n) {
        compare(PUT, "put(" + units + ", " + n + ")", () -> desk.put(units, n), () -> model.put(units, n));
    }

    private void callKind(int kind) {
        if (kind == PATTERN) {
            boolean ignoring = chance.either();
            boolean lines = chance.either();
            compare(PATTERN, "pattern(" + ignoring + ", " + lines + ")", () -> desk.pattern(ignoring, lines), () -> model.pattern(ignoring, lines));
        } else if (kind == TEXT) {
            compare(TEXT, "text()", () -> desk.text(), () -> model.text());
        } else if (kind == PLACE) {
            compare(PLACE, "place()", () -> desk.place(), () -> model.wrongPlace);
        } else if (kind == GROUP) {
            int k = chance.below(6) == 0 ? odd() : chance.below(4);
            boolean end = chance.either();
            compare(GROUP, "group(" + k + ", " + end + ")", () -> desk.group(k, end), () -> model.group(k, end));
        } else if (kind == MATCH) {
            int at = someplace();
            int fuel = someFuel();
            compare(MATCH, "match(" + at + ", " + fuel + ")", () -> desk.match(at, fuel), () -> model.search(at, false, fuel));
            callAbout();
        } else if (kind == FIND) {
            int from = someplace();
            int fuel = someFuel();
            compare(FIND, "find(" + from + ", " + fuel + ")", () -> desk.find(from, fuel), () -> model.search(from, true, fuel));
            callAbout();
        } else {
            compare(STEPS, "steps()", () -> desk.steps(), () -> model.lastSteps);
        }
    }

    /** Looks at all that a match or find left, as far as the object's calls allow it. */
    private void callAbout() {
        callKind(STEPS);
        int groups = model.result == null ? 1 : model.result.length;
        for (int k = 0; k < groups && chance.below(4) != 0; k++) {
            int number = k;
            boolean end = chance.either();
            compare(GROUP, "group(" + k + ", " + end + ")", () -> desk.group(number, end), () -> model.group(number, end));
        }
    }

    private int odd() {
        return ODD[chance.below(ODD.length)];
    }

    private int someplace() {
        if (chance.below(8) == 0) {
            return odd();
        }
        return chance.below(8) == 0 ? model.text.length() + chance.below(2) : chance.below(model.text.length() + 1);
    }

    private int someFuel() {
        int way = chance.below(8);
        if (way == 0) {
            return odd();
        }
        return way <= 3 ? 1 + chance.below(60) : way <= 6 ? 1 + chance.below(1000) : 10000;
    }

    private void compare(int kind, String call, Check.Call real, Check.Call due) {
        if (calls >= CALLS) {
            return;
        }
        calls++;
        String want = answer(due);
        String got = answer(real);
        run.append(call).append(' ').append(want).append("; ");
        if (want.startsWith("throws")) {
            thrown[kind]++;
        } else {
            answered[kind]++;
        }
        // The words of a run are made only where they are told.
        Check.same(got.equals(want) ? "" : run.toString(), got, want);
    }

    private static String answer(Check.Call call) {
        try {
            return Long.toString(call.run());
        } catch (IllegalArgumentException e) {
            return "throws.IllegalArgumentException";
        } catch (IllegalStateException e) {
            return "throws.IllegalStateException";
        }
    }
}
