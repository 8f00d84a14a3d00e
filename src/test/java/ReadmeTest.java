/** The example of README.md, line by line: it must answer what stands beside each line there. */
public final class ReadmeTest {
    public static void main(String[] args) {
        PatternDesk desk = new PatternDesk();
        desk.put(((long) '(' << 48) | ((long) 'a' << 32) | ((long) '+' << 16) | ')', 4);
        desk.put('b', 1);
        int groups = desk.pattern(false, false);
        desk.put(((long) 'x' << 48) | ((long) 'a' << 32) | ((long) 'a' << 16) | 'b', 4);
        int length = desk.text();
        int found = desk.find(0, 1000);
        int begin = desk.group(1, false);
        int end = desk.group(1, true);
        int steps = desk.steps();
        Check.due("groups", groups, 1);
        Check.due("length", length, 4);
        Check.due("found", found, 1);
        Check.due("begin", begin, 1);
        Check.due("end", end, 3);
        // At 0 an alternative, the group's one, a+ and a; at 1 these, a twice more, two repetitions through, and b.
        Check.due("steps", steps, 4 + 9);
        desk.put('a' << 16 | '*', 2);
        desk.put('*', 1);
        Check.argument("pattern a**", () -> desk.pattern(false, false));
        Check.due("place", desk.place(), 2);
        Check.end();
    }
}
