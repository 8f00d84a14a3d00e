/** Promise 5: what was told becomes the text. */
public final class TextTest {
    public static void main(String[] args) {
        PatternDesk desk = Check.desk("(a)b", "", "abc");
        Check.due("match", desk.match(0, 99), 1);
        int steps = desk.steps();
        Check.tell(desk, "ab");
        Check.due("told units are no text yet", desk.match(0, 99), 1);
        Check.argument("nor a place", () -> desk.match(4, 99));
        Check.due("text", desk.text(), 2);
        Check.state("the result goes", () -> desk.group(0, false));
        Check.due("steps stay", desk.steps(), steps);
        Check.argument("the old text's place", () -> desk.match(3, 99));
        Check.due("the pattern stays", desk.match(0, 99), 1);
        Check.due("what was told is used up", desk.text(), 0);
        Check.due("the empty text", desk.match(0, 99), 0);
        Check.argument("a place behind it", () -> desk.match(1, 99));
        Check.tell(desk, Check.repeat("ab", 300));
        Check.due("the longest text", desk.text(), 600);
        Check.due("its end", desk.match(600, 99), 0);
        Check.due("its last pair", desk.match(598, 99), 1);
        Check.due("end", desk.group(0, true), 600);
        Check.argument("behind its end", () -> desk.match(601, 99));
        Check.tell(desk, "xa");
        desk.text();
        Check.due("nothing of the longer text is left", desk.match(1, 99), 0);
        Check.end();
    }
}
