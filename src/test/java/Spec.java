import java.util.ArrayList;
import java.util.List;

/**
 * The document's terms once more, as plainly as the standard's clause 15.10 writes them: closures that call one
 * another. It needs a deep stack and makes many objects, and is here only to be compared with.
 */
final class Spec {
    static final class Wrong extends RuntimeException {
        private static final long serialVersionUID = 1L;
        final int place;

        Wrong(int place) {
            this.place = place;
        }
    }

    static final class Spent extends RuntimeException {
        private static final long serialVersionUID = 1L;
    }

    static final class State {
        final int end;
        final int[][] captures;

        State(int end, int[][] captures) {
            this.end = end;
            this.captures = captures;
        }
    }

    interface Continuation {
        State run(State x);
    }

    interface Matcher {
        State run(State x, Continuation c);
    }

    interface Has {
        boolean test(int unit);
    }

    private final String p;
    private final boolean ignoring;
    private final boolean lines;
    private int at = 0;
    private int depth = 0;
    private final List<int[]> references = new ArrayList<>();
    int groups = 0;
    private final Matcher whole;

    private String text;
    private int fuel;
    int steps;

    Spec(String pattern, boolean ignoring, boolean lines) {
        this.p = pattern;
        this.ignoring = ignoring;
        this.lines = lines;
        whole = disjunction();
        if (at < p.length()) {
            throw new Wrong(at);
        }
        for (int[] reference : references) {
            if (reference[2] == 1 || reference[0] > groups) {
                throw new Wrong(reference[1]);
            }
        }
    }

    /** The captures (0 the whole match), or null. */
    int[][] find(String units, int from, int last, int amount) {
        text = units;
        fuel = amount;
        steps = 0;
        for (int start = from; start <= last; start++) {
            State end = whole.run(new State(start, new int[groups + 1][]), y -> y);
            if (end != null) {
                int[][] all = end.captures.clone();
                all[0] = new int[] {start, end.end};
                return all;
            }
        }
        return null;
    }

    private void step() {
        if (steps == fuel) {
            throw new Spent();
        }
        steps++;
    }

    private boolean sees(char unit) {
        return at < p.length() && p.charAt(at) == unit;
    }

    private boolean seesOneOf(String units) {
        return at < p.length() && units.indexOf(p.charAt(at)) >= 0;
    }

    private boolean takes(String units) {
        if (p.startsWith(units, at)) {
            at += units.length();
            return true;
        }
        return false;
    }

    private char need(String units) {
        if (!seesOneOf(units)) {
            throw new Wrong(at);
        }
        return p.charAt(at++);
    }

    private static final String DIGITS = "0123456789";

    private Matcher disjunction() {
        Matcher one = alternative();
        Matcher counted = (x, c) -> {
            step();
            return one.run(x, c);
        };
        if (!takes("|")) {
            return counted;
        }
        Matcher others = disjunction();
        return (x, c) -> {
            State r = counted.run(x, c);
            return r != null ? r : others.run(x, c);
        };
    }

    private Matcher alternative() {
        Matcher all = (x, c) -> c.run(x);
        while (at < p.length() && !seesOneOf("|)")) {
            Matcher before = all;
            Matcher term = term();
            all = (x, c) -> before.run(x, y -> term.run(y, c));
        }
        return all;
    }

    private Matcher term() {
        int parenIndex = groups;
        if (takes("^")) {
            return assertion(e -> e == 0 || lines && isLineEnd(text.charAt(e - 1)));
        }
        if (takes("$")) {
            return assertion(e -> e == text.length() || lines && isLineEnd(text.charAt(e)));
        }
        if (takes("\\b")) {
            return assertion(e -> isWordAt(e - 1) != isWordAt(e));
        }
        if (takes("\\B")) {
            return assertion(e -> isWordAt(e - 1) == isWordAt(e));
        }
        if (p.startsWith("(?=", at) || p.startsWith("(?!", at)) {
            return look();
        }
        Matcher atom = atom();
        if (!seesOneOf("*+?{")) {
            return atom;
        }
        return quantified(atom, parenIndex);
    }

    private Matcher assertion(Has test) {
        return (x, c) -> {
            step();
            return test.test(x.end) ? c.run(x) : null;
        };
    }

    private Matcher look() {
        boolean not = p.charAt(at + 2) == '!';
        Matcher m = enclosed(3);
        return (x, c) -> {
            State r = m.run(x, y -> y);
            if (not) {
                return r == null ? c.run(x) : null;
            }
            return r == null ? null : c.run(new State(x.end, r.captures));
        };
    }

    /** Behind an opening of so many units, up to its ). */
    private Matcher enclosed(int size) {
        if (depth == 40) {
            throw new Wrong(at);
        }
        at += size;
        depth++;
        Matcher m = disjunction();
        need(")");
        depth--;
        return m;
    }

    private Matcher quantified(Matcher m, int parenIndex) {
        long min = 0;
        long max = Long.MAX_VALUE;
        int brace = at;
        char sign = p.charAt(at++);
        if (sign == '+') {
            min = 1;
        } else if (sign == '?') {
            max = 1;
        } else if (sign == '{') {
            java.math.BigInteger n = number();
            java.math.BigInteger most = n;
            if (need(",}") == ',') {
                most = sees('}') ? null : number();
                need("}");
            }
            if (most != null && n.compareTo(most) > 0) {
                throw new Wrong(brace);
            }
            min = n.min(java.math.BigInteger.valueOf(1L << 40)).longValue();
            max = most == null ? Long.MAX_VALUE : most.min(java.math.BigInteger.valueOf(1L << 40)).longValue();
        }
        boolean greedy = !takes("?");
        long from = min;
        long to = max;
        int parenCount = groups - parenIndex;
        return (x, c) -> repeatMatcher(m, new long[] {from, to}, greedy, x, c, new int[] {parenIndex, parenCount});
    }

    private java.math.BigInteger number() {
        StringBuilder digits = new StringBuilder().append(need(DIGITS));
        while (seesOneOf(DIGITS)) {
            digits.append(p.charAt(at++));
        }
        return new java.math.BigInteger(digits.toString());
    }

    private State repeatMatcher(Matcher m, long[] bounds, boolean greedy, State x, Continuation c, int[] parens) {
        step();
        long min = bounds[0];
        long max = bounds[1];
        if (max == 0) {
            return c.run(x);
        }
        Continuation d = y -> {
            if (min == 0 && y.end == x.end) {
                return null;
            }
            long[] fewer = {min == 0 ? 0 : min - 1, max == Long.MAX_VALUE ? max : max - 1};
            return repeatMatcher(m, fewer, greedy, y, c, parens);
        };
        int[][] cap = x.captures.clone();
        for (int k = parens[0] + 1; k <= parens[0] + parens[1]; k++) {
            cap[k] = null;
        }
        State xr = new State(x.end, cap);
        if (min != 0) {
            return m.run(xr, d);
        }
        if (!greedy) {
            State z = c.run(x);
            return z != null ? z : m.run(xr, d);
        }
        State z = m.run(xr, d);
        return z != null ? z : c.run(x);
    }

    private Matcher atom() {
        if (takes(".")) {
            return unitMatcher(u -> !isLineEnd(u));
        }
        if (sees('(')) {
            return group();
        }
        if (takes("[")) {
            return unitClass();
        }
        if (takes("\\")) {
            return atomEscape();
        }
        if (seesOneOf("^$\\.*+?()[]{}|")) {
            throw new Wrong(at);
        }
        return oneUnit(p.charAt(at++));
    }

    private Matcher oneUnit(int unit) {
        return unitMatcher(u -> canonical(u) == canonical(unit));
    }

    private Matcher unitMatcher(Has has) {
        return (x, c) -> {
            step();
            if (x.end == text.length() || !has.test(text.charAt(x.end))) {
                return null;
            }
            return c.run(new State(x.end + 1, x.captures));
        };
    }

    private Matcher group() {
        if (p.startsWith("(?", at)) {
            if (depth == 40) {
                throw new Wrong(at);
            }
            if (!p.startsWith(":", at + 2)) {
                throw new Wrong(at + 2);
            }
            return enclosed(3);
        }
        if (groups == 20) {
            throw new Wrong(at);
        }
        groups++;
        int k = groups;
        Matcher m = enclosed(1);
        return (x, c) -> m.run(x, y -> {
            int[][] cap = y.captures.clone();
            cap[k] = new int[] {x.end, y.end};
            return c.run(new State(y.end, cap));
        });
    }

    private Matcher atomEscape() {
        if (seesOneOf("123456789")) {
            int first = at;
            java.math.BigInteger k = number();
            boolean great = k.compareTo(java.math.BigInteger.valueOf(20)) > 0;
            references.add(new int[] {great ? 0 : k.intValue(), first, great ? 1 : 0});
            return backReference(great ? 0 : k.intValue());
        }
        Object value = escape();
        if (value instanceof Has) {
            return unitMatcher((Has) value);
        }
        return oneUnit((Integer) value);
    }

    private Matcher backReference(int k) {
        return (x, c) -> {
            step();
            int[] s = x.captures[k];
            if (s == null) {
                return c.run(x);
            }
            int f = x.end + s[1] - s[0];
            if (f > text.length()) {
                return null;
            }
            for (int i = 0; i < s[1] - s[0]; i++) {
                if (canonical(text.charAt(s[0] + i)) != canonical(text.charAt(x.end + i))) {
                    return null;
                }
            }
            return c.run(new State(f, x.captures));
        };
    }

    /** Behind a \, an Integer for a unit or a Has for a set. */
    private Object escape() {
        if (at >= p.length()) {
            throw new Wrong(at);
        }
        char unit = p.charAt(at++);
        int control = "tnvfr".indexOf(unit);
        if (control >= 0) {
            return 9 + control;
        }
        if (unit == '0') {
            if (seesOneOf(DIGITS)) {
                throw new Wrong(at);
            }
            return 0;
        }
        if (unit == 'c') {
            return need("ABCDEFGHIJKLMNOPQRSTUVWXYZabcdefghijklmnopqrstuvwxyz") % 32;
        }
        if (unit == 'x' || unit == 'u') {
            StringBuilder digits = new StringBuilder();
            for (int i = 0; i < (unit == 'x' ? 2 : 4); i++) {
                digits.append(need("0123456789abcdefABCDEF"));
            }
            return Integer.parseInt(digits.toString(), 16);
        }
        Has set = set(Character.toLowerCase(unit));
        if (set != null && unit < 128) {
            return Character.isLowerCase(unit) ? set : (Has) u -> !set.test(u);
        }
        if (unit > 255 || unit == '$' || unit == '_' || Character.isLetterOrDigit(unit)) {
            throw new Wrong(at - 1);
        }
        return (int) unit;
    }

    private static Has set(char letter) {
        switch (letter) {
            case 'd':
                return u -> u >= '0' && u <= '9';
            case 'w':
                return Spec::isWord;
            case 's':
                return u -> isLineEnd(u) || u == 9 || u == 11 || u == 12 || u == 32 || u == 160 || u == 5760 || u == 6158
                        || u >= 8192 && u <= 8202 || u == 8239 || u == 8287 || u == 12288 || u == 65279;
            default:
                return null;
        }
    }

    private Matcher unitClass() {
        boolean not = takes("^");
        List<Has> members = new ArrayList<>();
        while (!takes("]")) {
            if (at >= p.length()) {
                throw new Wrong(at);
            }
            Object low = member();
            if (sees('-') && at + 1 < p.length() && p.charAt(at + 1) != ']') {
                if (low instanceof Has) {
                    throw new Wrong(at);
                }
                at++;
                int begin = at;
                Object high = member();
                if (high instanceof Has || (Integer) high < (Integer) low) {
                    throw new Wrong(begin);
                }
                members.add(u -> u >= (Integer) low && u <= (Integer) high);
            } else {
                members.add(low instanceof Has ? (Has) low : u -> u == (Integer) low);
            }
        }
        return unitMatcher(u -> not != classHas(members, u));
    }

    private Object member() {
        if (!takes("\\")) {
            return (int) p.charAt(at++);
        }
        return takes("b") ? (Object) 8 : escape();
    }

    private boolean classHas(List<Has> members, int unit) {
        for (int other = 0; other < 1000; other++) {
            if (canonical(other) == canonical(unit) && anyHas(members, other)) {
                return true;
            }
        }
        return anyHas(members, unit);
    }

    private static boolean anyHas(List<Has> members, int unit) {
        for (Has member : members) {
            if (member.test(unit)) {
                return true;
            }
        }
        return false;
    }

    private int canonical(int u) {
        if (!ignoring) {
            return u;
        }
        if (u >= 97 && u <= 122 || u >= 224 && u <= 246 || u >= 248 && u <= 254) {
            return u - 32;
        }
        return u == 255 ? 376 : u == 181 ? 924 : u;
    }

    private boolean isWordAt(int e) {
        return e >= 0 && e < text.length() && isWord(text.charAt(e));
    }

    private static boolean isWord(int u) {
        return u >= '0' && u <= '9' || u >= 'A' && u <= 'Z' || u >= 'a' && u <= 'z' || u == '_';
    }

    private static boolean isLineEnd(int u) {
        return u == 10 || u == 13 || u == 8232 || u == 8233;
    }
}
