import java.lang.reflect.Constructor;
import java.lang.reflect.Field;
import java.lang.reflect.Member;
import java.lang.reflect.Method;
import java.lang.reflect.Modifier;
import java.util.Arrays;
import java.util.Set;
import java.util.TreeSet;

/** The public face is the document's, and nothing else of the class can be seen from outside. */
public final class FaceTest {
    private static final Check CHECK = new Check();
    private static final Set<String> FACE = new TreeSet<>(Set.of(
        "weight 2", "behave 2", "disturb 3", "sides 2", "cut 2", "turn 1", "catchUp 1", "node 2", "vote 4", "decided 3",
        "unlike 1", "evidence 2", "against 1", "count 1", "weightOf 2"));

    private static boolean isHidden(Member member) {
        return Modifier.isPrivate(member.getModifiers()) || member.isSynthetic();
    }

    private static boolean takesInts(Class<?>[] types) {
        return Arrays.stream(types).allMatch(type -> type == int.class);
    }

    private static void is(String what, boolean holds) {
        CHECK.due(what, holds ? 1 : 0, 1);
    }

    private static void methods() {
        Set<String> seen = new TreeSet<>();
        for (Method method : RoundVotes.class.getDeclaredMethods()) {
            if (!isHidden(method)) {
                seen.add(method.getName() + " " + method.getParameterCount());
                is(method + " is public", Modifier.isPublic(method.getModifiers()));
                is(method + " is of an object", !Modifier.isStatic(method.getModifiers()));
                is(method + " takes and answers int", takesInts(method.getParameterTypes()) && method.getReturnType() == int.class);
            }
        }
        is("methods " + seen, seen.equals(FACE));
    }

    private static void constructors() {
        Constructor<?>[] all = RoundVotes.class.getDeclaredConstructors();
        is("one constructor", all.length == 1);
        is("it is public", Modifier.isPublic(all[0].getModifiers()));
        is("it takes two ints", all[0].getParameterCount() == 2 && takesInts(all[0].getParameterTypes()));
    }

    private static void constants() {
        Set<String> seen = new TreeSet<>();
        for (Field field : RoundVotes.class.getDeclaredFields()) {
            if (!isHidden(field)) {
                seen.add(field.getName());
                int modifiers = field.getModifiers();
                is(field + " is a constant", Modifier.isPublic(modifiers) && Modifier.isStatic(modifiers) && Modifier.isFinal(modifiers));
                is(field + " is an int", field.getType() == int.class);
            }
        }
        is("constants " + seen, seen.equals(Set.of("BAD", "NONE", "FULL")));
        CHECK.due("BAD", RoundVotes.BAD, -1);
        CHECK.due("NONE", RoundVotes.NONE, -2);
        CHECK.due("FULL", RoundVotes.FULL, -3);
    }

    public static void main(String[] args) {
        is("public and final", Modifier.isPublic(RoundVotes.class.getModifiers()) && Modifier.isFinal(RoundVotes.class.getModifiers()));
        is("without a package", RoundVotes.class.getPackageName().isEmpty());
        methods();
        constructors();
        constants();
        CHECK.finish();
    }
}
