/** Promise 8: where the groups of the result are. */
public final class GroupTest {
    public static void main(String[] args) {
        PatternDesk desk = Check.desk("x(a)(?:(b)|(c))()", "", "zxac");
        Check.state("group before any match", () -> desk.group(0, false));
        Check.state("the result is looked at before the number", () -> desk.group(-1, false));
        Check.due("find", desk.find(0, 99), 1);
        Check.due("begin of all", desk.group(0, false), 1);
        Check.due("end of all", desk.group(0, true), 4);
        Check.due("begin of 1", desk.group(1, false), 2);
        Check.due("end of 1", desk.group(1, true), 3);
        Check.due("begin of 2", desk.group(2, false), -1);
        Check.due("end of 2", desk.group(2, true), -1);
        Check.due("begin of 3", desk.group(3, false), 3);
        Check.due("end of 3", desk.group(3, true), 4);
        Check.due("begin of the empty 4", desk.group(4, false), 4);
        Check.due("end of the empty 4", desk.group(4, true), 4);
        for (int k : new int[] {-1, 5, 20, 21, Integer.MIN_VALUE, Integer.MAX_VALUE}) {
            Check.argument("group " + k, () -> desk.group(k, true));
            Check.argument("group " + k, () -> desk.group(k, false));
        }
        Check.due("the result stays", desk.group(1, true), 3);
        Check.due("a match that fails", desk.match(0, 99), 0);
        Check.state("the result goes", () -> desk.group(0, false));
        Check.due("a match", desk.match(1, 99), 1);
        Check.due("a match that is spent", desk.match(1, 2), 2);
        Check.state("the result goes", () -> desk.group(0, false));
        forgottenEnds();
        twenty();
        Check.end();
    }

    private static void forgottenEnds() {
        PatternDesk desk = Check.desk("(?:(a)|b)*", "", "ab");
        Check.due("match", desk.match(0, 99), 1);
        Check.due("begin of a group that was forgotten", desk.group(1, false), -1);
        Check.due("end of a group that was forgotten", desk.group(1, true), -1);
    }

    private static void twenty() {
        PatternDesk desk = Check.desk(Check.repeat("(.)", 20), "", "abcdefghijklmnopqrstuvwxyz");
        Check.due("match", desk.match(3, 99), 1);
        for (int k = 1; k <= 20; k++) {
            Check.due("begin of " + k, desk.group(k, false), 2 + k);
            Check.due("end of " + k, desk.group(k, true), 3 + k);
        }
        Check.argument("group 21", () -> desk.group(21, false));
        PatternDesk other = Check.desk(Check.repeat("()", 19) + "(?:(b)|c)", "", "bc");
        Check.due("match", other.match(0, 99), 1);
        Check.due("end of 20", other.group(20, true), 1);
        Check.due("match", other.match(1, 99), 1);
        Check.due("nothing of an earlier match is left", other.group(20, true), -1);
    }
}
