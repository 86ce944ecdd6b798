import java.lang.reflect.Constructor;
import java.lang.reflect.Field;
import java.lang.reflect.Method;
import java.lang.reflect.Modifier;
import java.util.Arrays;
import java.util.HashSet;
import java.util.List;
import java.util.Set;

/** The public face, member by member: what the document lists is there, and nothing else. */
public final class FaceTest {
    private static final Due DUE = new Due();

    /** Each method with how many ints it takes. */
    private static final List<String> METHODS = List.of("day 4", "ofSwearer 2", "ofOath 2", "ofHour 2", "chill 2",
        "coat 2", "frost 2", "swear 3", "release 1", "stove 2", "trial 5", "bound 2", "together 1", "coated 1",
        "letgo 1", "stoves 2", "reading 3", "back 1", "coats 1", "kinds 1", "frosts 1", "odds 3", "sheet 3", "lose 1",
        "put 3", "cell 3", "copy 5", "tell 1", "pinch 1", "as 2", "trace 0", "fault 0", "many 1");

    public static void main(String[] args) {
        constants();
        theClass();
        methods();
        fields();
        DUE.end();
    }

    private static void constants() {
        DUE.is("UNKNOWN", ColdOaths.UNKNOWN, -1);
        DUE.is("OUTSIDE", ColdOaths.OUTSIDE, -2);
        DUE.is("STATE", ColdOaths.STATE, -3);
        DUE.is("FULL", ColdOaths.FULL, -4);
        DUE.is("NONE", ColdOaths.NONE, -9);
        DUE.is("LOST", ColdOaths.LOST, Long.MIN_VALUE);
    }

    private static void holds(String what, boolean so) {
        DUE.is(what, so ? 1 : 0, 1);
    }

    private static void theClass() {
        int kind = ColdOaths.class.getModifiers();
        holds("public and final", Modifier.isPublic(kind) && Modifier.isFinal(kind));
        Constructor<?>[] made = ColdOaths.class.getDeclaredConstructors();
        holds("one constructor", made.length == 1 && made[0].getParameterCount() == 0);
        holds("a public one", Modifier.isPublic(made[0].getModifiers()));
        for (Class<?> inside : ColdOaths.class.getDeclaredClasses()) {
            holds(inside + " is static", Modifier.isStatic(inside.getModifiers()));
            holds(inside + " is hidden", !Modifier.isPublic(inside.getModifiers()));
        }
    }

    private static void methods() {
        Set<String> open = new HashSet<>();
        Set<String> names = new HashSet<>();
        METHODS.forEach(m -> names.add(m.split(" ")[0]));
        for (Method m : ColdOaths.class.getDeclaredMethods()) {
            if (Modifier.isPublic(m.getModifiers())) {
                open.add(m.getName() + " " + m.getParameterCount());
                boolean tellsLong = m.getName().equals("odds") || m.getName().equals("cell");
                holds(m + " answers its type", m.getReturnType() == (tellsLong ? long.class : int.class));
                holds(m + " takes ints", Arrays.stream(m.getParameterTypes()).allMatch(t -> t == int.class));
            } else {
                holds(m + " is private", Modifier.isPrivate(m.getModifiers()));
                holds(m + " has a name of its own", !names.contains(m.getName()));
            }
        }
        holds("the methods", open.equals(new HashSet<>(METHODS)));
    }

    private static void fields() {
        Set<String> open = new HashSet<>();
        for (Field f : ColdOaths.class.getDeclaredFields()) {
            if (!Modifier.isPrivate(f.getModifiers())) {
                open.add(f.getName());
            }
            holds(f + " is final, if static", !Modifier.isStatic(f.getModifiers()) || Modifier.isFinal(f.getModifiers()));
        }
        holds("the constants", open.equals(Set.of("UNKNOWN", "OUTSIDE", "STATE", "FULL", "NONE", "LOST")));
    }
}
