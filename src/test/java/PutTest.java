/** Promise 2: units are told, 1 to 4 a call, up to 600. */
public final class PutTest {
    public static void main(String[] args) {
        order();
        wrongCounts();
        limit();
        Check.end();
    }

    private static void order() {
        PatternDesk desk = new PatternDesk();
        Check.due("put of one", desk.put('a', 1), 1);
        Check.due("put of two", desk.put((long) 'b' << 16 | 'c', 2), 3);
        Check.due("put of three", desk.put((long) 'd' << 32 | (long) 'e' << 16 | 'f', 3), 6);
        Check.due("put of four", desk.put(0xFFFF_0000_8000_0067L, 4), 10);
        Check.due("text", desk.text(), 10);
        Check.tell(desk, "abcdef\\uFFFF\\0\\u8000g$");
        desk.pattern(false, false);
        Check.due("the highest unit comes first", desk.match(0, 100), 1);
        Check.due("put begins anew", desk.put(-1L, 1), 1);
        Check.due("text", desk.text(), 1);
        Check.tell(desk, "\\uFFFF");
        desk.pattern(false, false);
        Check.due("higher bits are not told", desk.match(0, 100), 1);
    }

    private static void wrongCounts() {
        PatternDesk desk = new PatternDesk();
        for (int n : new int[] {0, 5, -1, 6, Integer.MIN_VALUE, Integer.MAX_VALUE}) {
            Check.argument("put of " + n, () -> desk.put(5, n));
        }
        Check.due("a put that throws tells nothing", desk.put(5, 1), 1);
    }

    private static void limit() {
        PatternDesk desk = new PatternDesk();
        Check.tell(desk, Check.repeat("a", 598));
        Check.state("put of 3 behind 598", () -> desk.put(5, 3));
        Check.argument("n is looked at first", () -> desk.put(5, 5));
        Check.due("put of 2 behind 598", desk.put(5, 2), 600);
        Check.state("put of 1 behind 600", () -> desk.put(5, 1));
        Check.argument("n is looked at first behind 600", () -> desk.put(5, 0));
        Check.due("text", desk.text(), 600);
        Check.due("put behind text", desk.put(5, 4), 4);
    }
}
