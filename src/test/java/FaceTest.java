import java.lang.reflect.Constructor;
import java.lang.reflect.Field;
import java.lang.reflect.Member;
import java.lang.reflect.Method;
import java.lang.reflect.Modifier;
import java.util.Set;
import java.util.TreeSet;

/** The public face is the document's, and there is no other member that can be seen from outside. */
public final class FaceTest {
    private static final String ARGUMENT = " throws java.lang.IllegalArgumentException";
    private static final String BOTH = ARGUMENT + ",java.lang.IllegalStateException";

    public static void main(String[] args) {
        Set<String> want = new TreeSet<>(Set.of(
                "public PatternDesk()",
                "public int PatternDesk.put(long,int)" + BOTH,
                "public int PatternDesk.pattern(boolean,boolean)" + ARGUMENT,
                "public int PatternDesk.place()",
                "public int PatternDesk.text()",
                "public int PatternDesk.match(int,int)" + BOTH,
                "public int PatternDesk.find(int,int)" + BOTH,
                "public int PatternDesk.group(int,boolean)" + BOTH,
                "public int PatternDesk.steps()"));
        Set<String> got = new TreeSet<>();
        Set<String> names = new TreeSet<>();
        for (Constructor<?> one : PatternDesk.class.getDeclaredConstructors()) {
            add(got, one, one.toString());
        }
        for (Method one : PatternDesk.class.getDeclaredMethods()) {
            add(got, one, one.toString());
            Check.due("methods named " + one.getName() + " before it", names.add(one.getName()) ? 0 : 1, 0);
        }
        for (Field one : PatternDesk.class.getDeclaredFields()) {
            add(got, one, one.toString());
        }
        Check.same("the face", got.toString(), want.toString());
        int flags = PatternDesk.class.getModifiers();
        Check.due("public and final", Modifier.isPublic(flags) && Modifier.isFinal(flags) ? 1 : 0, 1);
        Check.end();
    }

    private static void add(Set<String> got, Member member, String shown) {
        if (!Modifier.isPrivate(member.getModifiers())) {
            got.add(shown);
        }
    }
}
