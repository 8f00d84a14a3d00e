/**
 * Reads and checks patterns of a script language, looks for them in a text, and counts each step.
 * The document's numbered promises say what each call answers.
 */
public final class PatternDesk {
    private static final int MOST_TOLD = 600;
    private static final int MOST_PATTERN = 200;
    private static final int MOST_FUEL = 10000;
    private static final int MOST_AT_ONCE = 4;
    private static final int UNIT_BITS = 16;
    private static final int UNIT_MASK = 65535;

    private static final int NO_MATCH = 0;
    private static final int A_MATCH = 1;
    private static final int SPENT = 2;

    private final int[] told;
    private final Program program;
    private final Reader reader;
    private final Machine machine;
    private int toldCount;
    private int wrongPlace;
    private boolean hasPattern;
    private boolean hasResult;

    public PatternDesk() {
        told = new int[MOST_TOLD];
        program = new Program();
        reader = new Reader(program, told);
        machine = new Machine(program);
        wrongPlace = -1;
    }

    public int put(long units, int n) throws IllegalArgumentException, IllegalStateException {
        if (n < 1 || n > MOST_AT_ONCE) {
            throw new IllegalArgumentException("n is not 1 .. 4");
        }
        if (toldCount + n > MOST_TOLD) {
            throw new IllegalStateException("there would be more than 600 units");
        }
        for (int behind = n - 1; behind >= 0; behind--) {
            int unit = (int) (units >>> (UNIT_BITS * behind)) & UNIT_MASK;
            Rows.write(told, toldCount, unit);
            toldCount++;
        }
        return toldCount;
    }

    public int pattern(boolean ignoring, boolean lines) throws IllegalArgumentException {
        int length = toldCount;
        toldCount = 0;
        hasResult = false;
        wrongPlace = length > MOST_PATTERN ? MOST_PATTERN : reader.readPattern(length);
        hasPattern = wrongPlace < 0;
        if (!hasPattern) {
            throw new IllegalArgumentException("the pattern is too long or wrong");
        }
        program.ignoring = ignoring;
        program.lines = lines;
        return program.groups;
    }

    public int place() {
        return wrongPlace;
    }

    public int text() {
        int length = toldCount;
        toldCount = 0;
        hasResult = false;
        machine.takeText(told, length);
        return length;
    }

    public int match(int at, int fuel) throws IllegalArgumentException, IllegalStateException {
        checkTry(at, fuel);
        machine.refuel(fuel);
        return settled(machine.tryAt(at));
    }

    public int find(int from, int fuel) throws IllegalArgumentException, IllegalStateException {
        checkTry(from, fuel);
        machine.refuel(fuel);
        int answer = NO_MATCH;
        for (int at = from; at <= machine.length && answer == NO_MATCH; at++) {
            answer = machine.tryAt(at);
        }
        return settled(answer);
    }

    public int group(int k, boolean end) throws IllegalArgumentException, IllegalStateException {
        if (!hasResult) {
            throw new IllegalStateException("there is no result");
        }
        if (k < 0 || k > program.groups) {
            throw new IllegalArgumentException("there is no such group");
        }
        return end ? machine.groupEnd(k) : machine.groupBegin(k);
    }

    public int steps() {
        return machine.taken;
    }

    private void checkTry(int at, int fuel) {
        if (at < 0 || at > machine.length) {
            throw new IllegalArgumentException("there is no such place");
        }
        if (fuel < 1 || fuel > MOST_FUEL) {
            throw new IllegalArgumentException("the fuel is not 1 .. 10,000");
        }
        if (!hasPattern) {
            throw new IllegalStateException("there is no pattern");
        }
    }

    private int settled(int answer) {
        hasResult = answer == A_MATCH;
        return answer;
    }

    /** Rows that are read and written behind a look at the index, so that no index can ever throw. */
    private static final class Rows {
        private Rows() {
        }

        static int read(int[] row, int index) {
            return index >= 0 && index < row.length ? row[index] : 0;
        }

        static void write(int[] row, int index, int value) {
            if (index >= 0 && index < row.length) {
                row[index] = value;
            }
        }
    }

    /** What the document says of units, whatever pattern they stand in. */
    private static final class Units {
        /** A set is told by its letter above all units, so that one number tells a unit or a set. */
        static final int SETS = 65536;

        private Units() {
        }

        static boolean isDigit(int unit) {
            return unit >= '0' && unit <= '9';
        }

        static boolean isLetter(int unit) {
            return unit >= 'A' && unit <= 'Z' || unit >= 'a' && unit <= 'z';
        }

        static boolean isWord(int unit) {
            return isLetter(unit) || isDigit(unit) || unit == '_';
        }

        static boolean isLineEnd(int unit) {
            return unit == 10 || unit == 13 || unit == 8232 || unit == 8233;
        }

        static boolean isBlank(int unit) {
            switch (unit) {
                case 9:
                case 11:
                case 12:
                case 32:
                case 160:
                case 5760:
                case 6158:
                case 8239:
                case 8287:
                case 12288:
                case 65279:
                    return true;
                default:
                    return unit >= 8192 && unit <= 8202;
            }
        }

        static boolean isNamePart(int unit) {
            switch (unit) {
                case '$':
                case '_':
                case 170:
                case 181:
                case 186:
                    return true;
                default:
                    return isLetter(unit) || isDigit(unit) || unit >= 192 && unit <= 255 && unit != 215 && unit != 247;
            }
        }

        static boolean inSet(int set, int unit) {
            switch (set - SETS) {
                case 'd':
                    return isDigit(unit);
                case 'D':
                    return !isDigit(unit);
                case 's':
                    return isBlank(unit) || isLineEnd(unit);
                case 'S':
                    return !isBlank(unit) && !isLineEnd(unit);
                case 'w':
                    return isWord(unit);
                default:
                    return !isWord(unit);
            }
        }

        /** The value of a digit of sixteen, -1 for what is none. */
        static int sixteenth(int unit) {
            if (unit >= '0' && unit <= '9') {
                return unit - '0';
            }
            if (unit >= 'a' && unit <= 'f') {
                return unit - 'a' + 10;
            }
            return unit >= 'A' && unit <= 'F' ? unit - 'A' + 10 : -1;
        }

        static int upper(int unit) {
            if (unit >= 'a' && unit <= 'z' || unit >= 224 && unit <= 254 && unit != 247) {
                return unit - 32;
            }
            if (unit == 255) {
                return 376;
            }
            return unit == 181 ? 924 : unit;
        }

        /** The one other unit with the same upper one, or the unit itself where there is none. */
        static int twin(int unit) {
            int upper = upper(unit);
            if (upper != unit) {
                return upper;
            }
            if (unit >= 'A' && unit <= 'Z' || unit >= 192 && unit <= 222 && unit != 215) {
                return unit + 32;
            }
            if (unit == 376) {
                return 255;
            }
            return unit == 924 ? 181 : unit;
        }
    }

    /** A pattern that was read: nodes, each of which names the one to go to when it has passed. */
    private static final class Program {
        static final int END = 0;
        static final int UNIT = 1;
        static final int ANY = 2;
        static final int SET = 3;
        static final int CLASS = 4;
        static final int CLASS_NOT = 5;
        static final int BACK = 6;
        static final int LINE_BEGIN = 7;
        static final int LINE_END = 8;
        static final int EDGE = 9;
        static final int NO_EDGE = 10;
        static final int ALTERNATIVE = 11;
        static final int REPEAT = 12;
        static final int ENTER = 13;
        static final int AGAIN = 14;
        /** A closing node's kind is the opening one's and 1, and it stands right behind it. */
        static final int GROUP = 15;
        static final int GROUP_END = 16;
        static final int PLAIN = 17;
        static final int PLAIN_END = 18;
        static final int LOOK = 19;
        static final int LOOK_END = 20;
        static final int LOOK_NOT = 21;
        static final int LOOK_NOT_END = 22;

        static final int LAST_UNIT_TEST = CLASS_NOT;
        static final int LAST_TEST = NO_EDGE;
        static final int LAST_COUNTED = REPEAT;

        static final int END_NODE = 0;
        static final int FIRST_NODE = 1;
        static final int NO_NODE = -1;
        static final int MOST_GROUPS = 20;
        /** A unit makes three nodes at most (a parenthesis or a quantifier); two stand in every pattern. */
        static final int MOST_NODES = 3 * MOST_PATTERN + 2;
        /** A quantifier and what it repeats have two units at least. */
        static final int MOST_REPEATS = MOST_PATTERN / 2;
        /** A look ahead has four units at least, (?=). */
        static final int MOST_LOOKS = MOST_PATTERN / 4;
        /** More repetitions than any fuel lets through: it stands for all greater numbers, and for no bound. */
        static final int MANY = 100000;

        final int[] kind = new int[MOST_NODES];
        final int[] next = new int[MOST_NODES];
        final int[] first = new int[MOST_NODES];
        final int[] second = new int[MOST_NODES];
        final int[] low = new int[MOST_PATTERN];
        final int[] high = new int[MOST_PATTERN];
        final int[] least = new int[MOST_REPEATS];
        final int[] most = new int[MOST_REPEATS];
        final int[] lazy = new int[MOST_REPEATS];
        final int[] groupsBefore = new int[MOST_REPEATS];
        final int[] groupsThrough = new int[MOST_REPEATS];
        final int[] head = new int[MOST_REPEATS];
        int nodes;
        int members;
        int repeats;
        int looks;
        int groups;
        boolean ignoring;
        boolean lines;

        void clear() {
            nodes = 0;
            members = 0;
            repeats = 0;
            looks = 0;
            groups = 0;
        }

        int addNode(int nodeKind, int firstValue, int secondValue) {
            int node = nodes;
            if (node >= 0 && node < MOST_NODES) {
                kind[node] = nodeKind;
                next[node] = END_NODE;
                first[node] = firstValue;
                second[node] = secondValue;
                nodes++;
            }
            return node;
        }

        void link(int from, int to) {
            Rows.write(next, from, to);
        }

        void addMember(int lowest, int highest) {
            if (members >= 0 && members < MOST_PATTERN) {
                low[members] = lowest;
                high[members] = highest;
                members++;
            }
        }
    }

    /** Reads the units of a pattern into a program, up to the first fault. */
    private static final class Reader {
        private static final int MOST_DEPTH = 40;
        private static final int NOTHING = -1;

        private final Program program;
        private final int[] units;
        private final int[] openNode = new int[MOST_DEPTH];
        private final int[] outerTail = new int[MOST_DEPTH];
        private final int[] outerAlternative = new int[MOST_DEPTH];
        private final int[] outerGroups = new int[MOST_DEPTH];
        private int length;
        private int at;
        private int wrong;
        private int depth;
        private int alternative;
        private int tail;
        private int least;
        private int most;
        /** The atom that was read last and is not appended yet, for a quantifier may follow. */
        private int atomFirst;
        private int atomLast;
        private int atomGroups;

        Reader(Program program, int[] units) {
            this.program = program;
            this.units = units;
        }

        /** Where the pattern is wrong, or -1. */
        int readPattern(int count) {
            length = count;
            at = 0;
            wrong = -1;
            depth = 0;
            atomFirst = Program.NO_NODE;
            program.clear();
            program.addNode(Program.END, 0, 0);
            beginAlternative();
            for (int turn = 0; turn < MOST_PATTERN && at < length && wrong < 0; turn++) {
                readTerm();
                if (wrong < 0 && atomFirst != Program.NO_NODE) {
                    appendAtom();
                }
            }
            if (wrong < 0 && depth > 0) {
                wrong = length;
            }
            if (wrong < 0) {
                wrong = tooGreatReference();
            }
            program.link(tail, Program.END_NODE);
            return wrong;
        }

        private int unitAt(int index) {
            return index >= 0 && index < length && index < units.length ? units[index] : NOTHING;
        }

        /** A term but for its quantifier, a bar, or one side of a parenthesis. */
        private void readTerm() {
            int unit = unitAt(at);
            switch (unit) {
                case '|':
                    readBar();
                    break;
                case '(':
                    readOpening();
                    break;
                case ')':
                    readClosing();
                    break;
                case '[':
                    readClass();
                    break;
                case '\\':
                    readBackslash();
                    break;
                case '^':
                    addAssertion(Program.LINE_BEGIN, 1);
                    break;
                case '$':
                    addAssertion(Program.LINE_END, 1);
                    break;
                case '.':
                    at++;
                    addAtom(Program.ANY, 0, 0);
                    break;
                case '*':
                case '+':
                case '?':
                case '{':
                case '}':
                case ']':
                    wrong = at;
                    break;
                default:
                    at++;
                    addAtom(Program.UNIT, unit, 0);
                    break;
            }
        }

        private void beginAlternative() {
            alternative = program.addNode(Program.ALTERNATIVE, Program.NO_NODE, 0);
            tail = alternative;
        }

        private void readBar() {
            int end = depth > 0 ? Rows.read(openNode, depth - 1) + 1 : Program.END_NODE;
            program.link(tail, end);
            int before = alternative;
            beginAlternative();
            Rows.write(program.first, before, alternative);
            at++;
        }

        private void readOpening() {
            boolean isGroup = unitAt(at + 1) != '?';
            if (depth >= MOST_DEPTH || isGroup && program.groups >= Program.MOST_GROUPS) {
                wrong = at;
                return;
            }
            if (isGroup) {
                at++;
                openParenthesis(Program.GROUP, program.groups + 1);
                program.groups++;
                return;
            }
            switch (unitAt(at + 2)) {
                case ':':
                    openParenthesis(Program.PLAIN, 0);
                    break;
                case '=':
                    openParenthesis(Program.LOOK, program.looks);
                    program.looks++;
                    break;
                case '!':
                    openParenthesis(Program.LOOK_NOT, program.looks);
                    program.looks++;
                    break;
                default:
                    wrong = at + 2;
                    return;
            }
            at += 3;
        }

        private void openParenthesis(int kind, int number) {
            int open = program.addNode(kind, number, 0);
            program.addNode(kind + 1, number, 0);
            Rows.write(openNode, depth, open);
            Rows.write(outerTail, depth, tail);
            Rows.write(outerAlternative, depth, alternative);
            Rows.write(outerGroups, depth, program.groups);
            depth++;
            beginAlternative();
            program.link(open, alternative);
        }

        private void readClosing() {
            if (depth == 0) {
                wrong = at;
                return;
            }
            depth--;
            int open = Rows.read(openNode, depth);
            program.link(tail, open + 1);
            tail = Rows.read(outerTail, depth);
            alternative = Rows.read(outerAlternative, depth);
            at++;
            int kind = Rows.read(program.kind, open);
            if (kind == Program.LOOK || kind == Program.LOOK_NOT) {
                append(open, open + 1);
            } else {
                holdAtom(open, open + 1, Rows.read(outerGroups, depth));
            }
        }

        private void append(int firstNode, int lastNode) {
            program.link(tail, firstNode);
            tail = lastNode;
        }

        private void addAssertion(int kind, int size) {
            int node = program.addNode(kind, 0, 0);
            append(node, node);
            at += size;
        }

        private void addAtom(int kind, int firstValue, int secondValue) {
            int node = program.addNode(kind, firstValue, secondValue);
            holdAtom(node, node, program.groups);
        }

        private void holdAtom(int firstNode, int lastNode, int groupsBefore) {
            atomFirst = firstNode;
            atomLast = lastNode;
            atomGroups = groupsBefore;
        }

        /** Appends the atom that is held, within a repetition where a quantifier follows it. */
        private void appendAtom() {
            if (readQuantifier()) {
                appendRepetition();
            } else {
                append(atomFirst, atomLast);
            }
            atomFirst = Program.NO_NODE;
        }

        private void appendRepetition() {
            boolean isLazy = unitAt(at) == '?';
            if (isLazy) {
                at++;
            }
            int repeat = program.repeats;
            program.repeats++;
            int head = program.addNode(Program.REPEAT, repeat, 0);
            int enter = program.addNode(Program.ENTER, repeat, 0);
            int again = program.addNode(Program.AGAIN, repeat, 0);
            program.link(enter, atomFirst);
            program.link(atomLast, again);
            Rows.write(program.head, repeat, head);
            Rows.write(program.least, repeat, least);
            Rows.write(program.most, repeat, most);
            Rows.write(program.lazy, repeat, isLazy ? 1 : 0);
            Rows.write(program.groupsBefore, repeat, atomGroups);
            Rows.write(program.groupsThrough, repeat, program.groups);
            append(head, head);
        }

        /** Whether a right quantifier stood here; its bounds are in least and most then. */
        private boolean readQuantifier() {
            switch (unitAt(at)) {
                case '*':
                    return takeSign(0, Program.MANY);
                case '+':
                    return takeSign(1, Program.MANY);
                case '?':
                    return takeSign(0, 1);
                case '{':
                    readBraces();
                    return wrong < 0;
                default:
                    return false;
            }
        }

        private boolean takeSign(int fewest, int greatest) {
            least = fewest;
            most = greatest;
            at++;
            return true;
        }

        private void readBraces() {
            int brace = at;
            at++;
            int from = at;
            least = readNumber();
            int to = at;
            most = least;
            boolean falling = false;
            if (wrong < 0 && unitAt(at) == ',') {
                at++;
                if (unitAt(at) == '}') {
                    most = Program.MANY;
                } else {
                    int secondFrom = at;
                    most = readNumber();
                    falling = isAbove(from, to, secondFrom, at);
                }
            }
            if (wrong >= 0) {
                return;
            }
            if (unitAt(at) != '}') {
                wrong = at;
            } else if (falling) {
                wrong = brace;
            } else {
                at++;
            }
        }

        /** The number that at least one digit tells here, MANY for all that are greater. */
        private int readNumber() {
            if (!Units.isDigit(unitAt(at))) {
                wrong = at;
                return 0;
            }
            int number = 0;
            for (; at < length && Units.isDigit(unitAt(at)); at++) {
                number = Math.min(number * 10 + unitAt(at) - '0', Program.MANY);
            }
            return number;
        }

        /** Compares digits, not values: the numbers of a quantifier may be greater than any long. */
        private boolean isAbove(int from, int to, int otherFrom, int otherTo) {
            for (int left = Math.max(to - from, otherTo - otherFrom); left > 0; left--) {
                int one = to - left >= from ? unitAt(to - left) : '0';
                int other = otherTo - left >= otherFrom ? unitAt(otherTo - left) : '0';
                if (one != other) {
                    return one > other;
                }
            }
            return false;
        }

        private void readBackslash() {
            int unit = unitAt(at + 1);
            if (unit == 'b') {
                addAssertion(Program.EDGE, 2);
            } else if (unit == 'B') {
                addAssertion(Program.NO_EDGE, 2);
            } else if (Units.isDigit(unit) && unit != '0') {
                at++;
                int digits = at;
                addAtom(Program.BACK, readNumber(), digits);
            } else {
                int value = readEscape();
                if (wrong < 0) {
                    addAtom(value >= Units.SETS ? Program.SET : Program.UNIT, value, 0);
                }
            }
        }

        /** The unit or set that the escape here stands for, as in a class: no back reference, and b is 8. */
        private int readEscape() {
            int unit = unitAt(at + 1);
            at += 2;
            switch (unit) {
                case '0':
                    return readZero();
                case 'b':
                    return 8;
                case 't':
                    return 9;
                case 'n':
                    return 10;
                case 'v':
                    return 11;
                case 'f':
                    return 12;
                case 'r':
                    return 13;
                case 'c':
                    return readControl();
                case 'x':
                    return readSixteenths(2);
                case 'u':
                    return readSixteenths(4);
                case 'd':
                case 'D':
                case 's':
                case 'S':
                case 'w':
                case 'W':
                    return Units.SETS + unit;
                default:
                    if (unit < 0 || unit > 255 || Units.isNamePart(unit)) {
                        wrong = at - 1;
                    }
                    return unit;
            }
        }

        private int readZero() {
            if (Units.isDigit(unitAt(at))) {
                wrong = at;
            }
            return 0;
        }

        private int readControl() {
            int letter = unitAt(at);
            if (!Units.isLetter(letter)) {
                wrong = at;
                return 0;
            }
            at++;
            return letter & 31;
        }

        private int readSixteenths(int count) {
            int value = 0;
            for (int i = 0; i < count; i++) {
                int digit = Units.sixteenth(unitAt(at));
                if (digit < 0) {
                    wrong = at;
                    return 0;
                }
                value = value * 16 + digit;
                at++;
            }
            return value;
        }

        private void readClass() {
            at++;
            boolean isNot = unitAt(at) == '^';
            if (isNot) {
                at++;
            }
            int from = program.members;
            int lowest = NOTHING;
            for (int turn = 0; turn < MOST_PATTERN && at < length && unitAt(at) != ']' && wrong < 0; turn++) {
                int begin = at;
                int member = unitAt(at) == '\\' ? readEscape() : takeUnit();
                if (wrong < 0) {
                    lowest = takeMember(lowest, member, begin);
                }
            }
            if (wrong < 0 && at >= length) {
                wrong = length;
            }
            if (wrong < 0) {
                at++;
                addAtom(isNot ? Program.CLASS_NOT : Program.CLASS, from, program.members);
            }
        }

        private int takeUnit() {
            int unit = unitAt(at);
            at++;
            return unit;
        }

        /** Adds a member, or the range from lowest on that it ends; answers it when a range begins with it. */
        private int takeMember(int lowest, int member, int begin) {
            boolean isSet = member >= Units.SETS;
            if (lowest != NOTHING) {
                if (isSet || member < lowest) {
                    wrong = begin;
                }
                program.addMember(lowest, member);
                return NOTHING;
            }
            // A - at the pattern's end is taken as a member: what is missing is told behind it then.
            boolean isRange = unitAt(at) == '-' && at + 1 < length && unitAt(at + 1) != ']';
            if (!isRange) {
                program.addMember(member, member);
                return NOTHING;
            }
            if (isSet) {
                wrong = at;
            }
            at++;
            return member;
        }

        /** The first digit of the first back reference to a group that is none, or -1. */
        private int tooGreatReference() {
            for (int node = 0; node < program.nodes; node++) {
                if (Rows.read(program.kind, node) == Program.BACK && Rows.read(program.first, node) > program.groups) {
                    return Rows.read(program.second, node);
                }
            }
            return -1;
        }
    }

    /**
     * Tries a program on the text. What may have to be gone back to is in cells; a trail keeps what a cell
     * held before, and a choice keeps how long the trail was.
     */
    private static final class Machine {
        private static final int MATCHED = -1;
        private static final int FAILED = -2;
        private static final int OUT_OF_FUEL = -3;

        private static final int ROW = Program.MOST_GROUPS + 1;
        private static final int BEGINS = 0;
        private static final int ENDS = ROW;
        private static final int STARTS = 2 * ROW;
        private static final int COUNTS = 3 * ROW;
        private static final int PLACES = COUNTS + Program.MOST_REPEATS;
        private static final int MOST_CELLS = PLACES + Program.MOST_REPEATS;

        /** A step leaves one choice at most; each look ahead that is open (40 at most) leaves one more. */
        private static final int MOST_CHOICES = MOST_FUEL + 100;
        /** On the way to a place a group is opened, closed and forgotten once for each step: four cells. */
        private static final int MOST_TRAIL = 4 * MOST_FUEL + 100;
        /**
         * A step or a choice gone back to leads to 40 closed parentheses at most before the next step, and
         * there are no more choices than steps: this is far above 2 * 10,000 * 42.
         */
        private static final int MOST_TURNS = 4000000;

        private final Program program;
        private final int[] text = new int[MOST_TOLD];
        private final int[] cells = new int[MOST_CELLS];
        private final int[] choiceNode = new int[MOST_CHOICES];
        private final int[] choiceAt = new int[MOST_CHOICES];
        private final int[] choiceTrail = new int[MOST_CHOICES];
        private final int[] trail = new int[MOST_TRAIL];
        private final int[] lookChoices = new int[Program.MOST_LOOKS];
        private final int[] lookAt = new int[Program.MOST_LOOKS];
        private int choices;
        private int trailed;
        private int at;
        private int fuel;
        int length;
        int taken;

        Machine(Program program) {
            this.program = program;
        }

        void takeText(int[] units, int count) {
            for (int i = 0; i < count; i++) {
                Rows.write(text, i, Rows.read(units, i));
            }
            length = count;
        }

        void refuel(int amount) {
            fuel = amount;
            taken = 0;
        }

        int groupBegin(int k) {
            return Rows.read(cells, BEGINS + k);
        }

        /** Only its begin tells that a group was forgotten. */
        int groupEnd(int k) {
            return groupBegin(k) < 0 ? -1 : Rows.read(cells, ENDS + k);
        }

        /** Goes on with the fuel that is left: NO_MATCH, A_MATCH or SPENT. */
        int tryAt(int start) {
            at = start;
            choices = 0;
            trailed = 0;
            for (int k = 0; k <= Program.MOST_GROUPS; k++) {
                Rows.write(cells, BEGINS + k, -1);
            }
            int node = Program.FIRST_NODE;
            for (int turn = 0; turn < MOST_TURNS && node >= 0; turn++) {
                node = perform(node);
                if (node == FAILED) {
                    node = nextChoice();
                }
            }
            if (node == MATCHED) {
                Rows.write(cells, BEGINS, start);
                Rows.write(cells, ENDS, at);
                return A_MATCH;
            }
            return node == FAILED ? NO_MATCH : SPENT;
        }

        private boolean takesStep() {
            if (taken >= fuel) {
                return false;
            }
            taken++;
            return true;
        }

        private void setCell(int cell, int value) {
            int before = Rows.read(cells, cell);
            if (before != value) {
                Rows.write(trail, trailed, cell << UNIT_BITS | before + 1);
                trailed++;
                Rows.write(cells, cell, value);
            }
        }

        private void addChoice(int node) {
            Rows.write(choiceNode, choices, node);
            Rows.write(choiceAt, choices, at);
            Rows.write(choiceTrail, choices, trailed);
            choices++;
        }

        private int nextChoice() {
            if (choices <= 0) {
                return FAILED;
            }
            choices--;
            int kept = Rows.read(choiceTrail, choices);
            while (trailed > kept) {
                trailed--;
                int entry = Rows.read(trail, trailed);
                Rows.write(cells, entry >>> UNIT_BITS, (entry & UNIT_MASK) - 1);
            }
            at = Rows.read(choiceAt, choices);
            return Rows.read(choiceNode, choices);
        }

        /** Does what a node asks: the node to go on with, or MATCHED, FAILED or OUT_OF_FUEL. */
        private int perform(int node) {
            int kind = Rows.read(program.kind, node);
            int next = Rows.read(program.next, node);
            int number = Rows.read(program.first, node);
            if (kind == Program.END) {
                return MATCHED;
            }
            if (kind <= Program.LAST_COUNTED && !takesStep()) {
                return OUT_OF_FUEL;
            }
            if (kind <= Program.LAST_UNIT_TEST) {
                return takesUnit(kind, number, node) ? next : FAILED;
            }
            if (kind <= Program.LAST_TEST) {
                return passes(kind, number) ? next : FAILED;
            }
            switch (kind) {
                case Program.ALTERNATIVE:
                    if (number != Program.NO_NODE) {
                        addChoice(number);
                    }
                    return next;
                case Program.REPEAT:
                    setCell(COUNTS + number, 0);
                    return goOnOrEnd(number, 0);
                case Program.ENTER:
                    enterRepetition(number);
                    return next;
                case Program.AGAIN:
                    return endRepetition(number);
                case Program.GROUP:
                    setCell(STARTS + number, at);
                    return next;
                case Program.GROUP_END:
                    setCell(BEGINS + number, Rows.read(cells, STARTS + number));
                    setCell(ENDS + number, at);
                    return next;
                case Program.LOOK:
                case Program.LOOK_NOT:
                    beginLook(kind, number, node);
                    return next;
                case Program.LOOK_END:
                    choices = Rows.read(lookChoices, number);
                    at = Rows.read(lookAt, number);
                    return next;
                case Program.LOOK_NOT_END:
                    choices = Rows.read(lookChoices, number);
                    return FAILED;
                default:
                    return next;
            }
        }

        /** What a look ahead may leave is cut off at its end; one that must not match goes on by a choice. */
        private void beginLook(int kind, int look, int node) {
            Rows.write(lookChoices, look, choices);
            Rows.write(lookAt, look, at);
            if (kind == Program.LOOK_NOT) {
                addChoice(Rows.read(program.next, node + 1));
            }
        }

        private int goOnOrEnd(int repeat, int count) {
            int head = Rows.read(program.head, repeat);
            int behind = Rows.read(program.next, head);
            int enter = head + 1;
            if (count >= Rows.read(program.most, repeat)) {
                return behind;
            }
            if (count < Rows.read(program.least, repeat)) {
                return enter;
            }
            if (Rows.read(program.lazy, repeat) != 0) {
                addChoice(enter);
                return behind;
            }
            addChoice(behind);
            return enter;
        }

        private void enterRepetition(int repeat) {
            setCell(PLACES + repeat, at);
            int through = Rows.read(program.groupsThrough, repeat);
            for (int k = Rows.read(program.groupsBefore, repeat) + 1; k <= through; k++) {
                setCell(BEGINS + k, -1);
            }
        }

        private int endRepetition(int repeat) {
            int count = Rows.read(cells, COUNTS + repeat);
            boolean hadEnough = count >= Rows.read(program.least, repeat);
            if (hadEnough && at == Rows.read(cells, PLACES + repeat)) {
                return FAILED;
            }
            if (!takesStep()) {
                return OUT_OF_FUEL;
            }
            setCell(COUNTS + repeat, count + 1);
            return goOnOrEnd(repeat, count + 1);
        }

        private int unitAt(int index) {
            return index >= 0 && index < length && index < text.length ? text[index] : -1;
        }

        private boolean passes(int kind, int number) {
            switch (kind) {
                case Program.LINE_BEGIN:
                    return at == 0 || program.lines && Units.isLineEnd(unitAt(at - 1));
                case Program.LINE_END:
                    return at == length || program.lines && Units.isLineEnd(unitAt(at));
                case Program.EDGE:
                    return Units.isWord(unitAt(at - 1)) != Units.isWord(unitAt(at));
                case Program.NO_EDGE:
                    return Units.isWord(unitAt(at - 1)) == Units.isWord(unitAt(at));
                default:
                    return takesGroupAgain(number);
            }
        }

        private boolean takesUnit(int kind, int number, int node) {
            int unit = unitAt(at);
            if (unit < 0) {
                return false;
            }
            at++;
            switch (kind) {
                case Program.UNIT:
                    return isSame(unit, number);
                case Program.ANY:
                    return !Units.isLineEnd(unit);
                case Program.SET:
                    return Units.inSet(number, unit);
                case Program.CLASS:
                    return hasMember(number, Rows.read(program.second, node), unit);
                default:
                    return !hasMember(number, Rows.read(program.second, node), unit);
            }
        }

        private boolean isSame(int one, int other) {
            return one == other || program.ignoring && Units.upper(one) == Units.upper(other);
        }

        private boolean hasMember(int from, int to, int unit) {
            int twin = program.ignoring ? Units.twin(unit) : unit;
            for (int i = from; i < to; i++) {
                int low = Rows.read(program.low, i);
                int high = Rows.read(program.high, i);
                boolean has = low >= Units.SETS
                        ? Units.inSet(low, unit) || Units.inSet(low, twin)
                        : unit >= low && unit <= high || twin >= low && twin <= high;
                if (has) {
                    return true;
                }
            }
            return false;
        }

        private boolean takesGroupAgain(int k) {
            int begin = Rows.read(cells, BEGINS + k);
            if (begin < 0) {
                return true;
            }
            int size = Rows.read(cells, ENDS + k) - begin;
            if (size > length - at) {
                return false;
            }
            for (int i = 0; i < size; i++) {
                if (!isSame(unitAt(begin + i), unitAt(at + i))) {
                    return false;
                }
            }
            at += size;
            return true;
        }
    }
}
