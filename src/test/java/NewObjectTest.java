/** Promise 1: no pattern, an empty text. */
public final class NewObjectTest {
    public static void main(String[] args) {
        PatternDesk desk = new PatternDesk();
        Check.due("place of a new object", desk.place(), -1);
        Check.due("steps of a new object", desk.steps(), 0);
        Check.state("group of a new object", () -> desk.group(0, false));
        Check.state("match of a new object", () -> desk.match(0, 1));
        Check.state("find of a new object", () -> desk.find(0, 1));
        Check.argument("match behind the empty text", () -> desk.match(1, 1));
        Check.argument("find behind the empty text", () -> desk.find(1, 1));
        Check.due("text of nothing told", desk.text(), 0);
        Check.due("pattern of nothing told", desk.pattern(false, false), 0);
        Check.due("the empty pattern on the empty text", desk.match(0, 1), 1);
        Check.due("its end", desk.group(0, true), 0);
        PatternDesk other = new PatternDesk();
        Check.state("two objects share nothing", () -> other.match(0, 1));
        Check.end();
    }
}
