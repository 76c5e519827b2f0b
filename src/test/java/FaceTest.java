import java.lang.reflect.Constructor;
import java.lang.reflect.Field;
import java.lang.reflect.Method;
import java.lang.reflect.Modifier;
import java.util.Arrays;
import java.util.HashSet;
import java.util.List;
import java.util.Set;
import java.util.TreeSet;

/** The public face, and what LANGUAGE.md says of classes, members and static fields. */
public final class FaceTest {
    private static final Check C = new Check("the face");

    private static final List<String> FACE = List.of(
        "int one(int,int,int)", "int of(int,int)", "int heat(int,int)", "int away(int,boolean)", "int work(int,int)",
        "int piece(int,int)", "int anvil(int)", "int row(int,int,int)", "int feed(int)", "int square()", "int told(int)",
        "int pass(int)", "int on(int,int)", "int best(int,int)", "int talk(int,int)", "int see(int,int,boolean)",
        "int can(int,int,int)", "long odds(int,int,int)", "long mean(int,int)", "int plan(int,int)", "int ends(int)",
        "int book(int,int)", "int looked()", "int judge(int,int)", "int image()", "int undo()", "int act(int,int,int)",
        "int trace(int)", "int taken(int,int)", "int count(int)", "int tape(int,int,int)", "int item(int,int,long)",
        "long read(int,int)", "int shift(int,int,int,int,int)");

    public static void main(String[] args) {
        constants();
        methods();
        for (Class<?> inside : StruckWhile.class.getDeclaredClasses()) {
            inside(inside);
        }
        C.holds("at most twelve classes", StruckWhile.class.getDeclaredClasses().length + 1 <= 12);
        fields(StruckWhile.class);
        C.end();
    }

    private static void constants() {
        C.due(1, "NONE", StruckWhile.NONE, -1);
        C.due(1, "BAD", StruckWhile.BAD, -2);
        C.due(1, "STATE", StruckWhile.STATE, -3);
        C.due(1, "FULL", StruckWhile.FULL, -4);
        C.due(1, "NO", StruckWhile.NO, Long.MIN_VALUE);
        Set<String> open = new TreeSet<>();
        for (Field f : StruckWhile.class.getDeclaredFields()) {
            if (!Modifier.isPrivate(f.getModifiers())) {
                open.add(f.getName());
            }
        }
        C.holds("no other constant is open: " + open, open.equals(Set.of("NONE", "BAD", "STATE", "FULL", "NO")));
    }

    private static void methods() {
        Class<?> c = StruckWhile.class;
        C.holds("public and final", Modifier.isPublic(c.getModifiers()) && Modifier.isFinal(c.getModifiers()));
        Constructor<?>[] made = c.getDeclaredConstructors();
        C.holds("one constructor", made.length == 1 && made[0].getParameterCount() == 0);
        Set<String> open = new TreeSet<>();
        Set<String> openNames = new HashSet<>();
        for (Method m : c.getDeclaredMethods()) {
            if (Modifier.isPublic(m.getModifiers()) && !Modifier.isStatic(m.getModifiers())) {
                open.add(asText(m));
                openNames.add(m.getName());
            } else {
                C.holds(m + " is private", Modifier.isPrivate(m.getModifiers()));
            }
        }
        C.holds("the face is " + open, open.equals(new TreeSet<>(FACE)));
        for (Method m : c.getDeclaredMethods()) {
            C.holds(m + " bears a name of its own", Modifier.isPublic(m.getModifiers()) || !openNames.contains(m.getName()));
        }
        for (Class<?> inside : c.getDeclaredClasses()) {
            for (Method m : inside.getDeclaredMethods()) {
                C.holds(m + " bears a name of its own", !openNames.contains(m.getName()));
            }
        }
    }

    private static String asText(Method m) {
        StringBuilder types = new StringBuilder();
        for (Class<?> type : m.getParameterTypes()) {
            types.append(types.length() == 0 ? "" : ",").append(type.getSimpleName());
        }
        return m.getReturnType().getSimpleName() + " " + m.getName() + "(" + types + ")";
    }

    private static void inside(Class<?> inside) {
        C.holds(inside + " is static", Modifier.isStatic(inside.getModifiers()));
        C.holds(inside + " is not open", !Modifier.isPublic(inside.getModifiers()) && !Modifier.isProtected(inside.getModifiers()));
        C.holds(inside + " has no class inside", inside.getDeclaredClasses().length == 0);
        fields(inside);
        for (Method m : inside.getDeclaredMethods()) {
            C.holds(m + " takes at most seven", m.getParameterCount() <= 7);
            C.holds(m + " is no method of Object", !Set.of("equals", "hashCode", "toString").contains(m.getName()));
        }
    }

    private static void fields(Class<?> c) {
        long own = Arrays.stream(c.getDeclaredFields()).filter(f -> !Modifier.isStatic(f.getModifiers())).count();
        C.holds(c + " has at most twenty fields: " + own, own <= 20);
        Set<Class<?>> types = Set.of(int.class, long.class, boolean.class, char.class, String.class, int[].class, long[].class,
            char[].class, byte[].class);
        for (Field f : c.getDeclaredFields()) {
            if (Modifier.isStatic(f.getModifiers())) {
                C.holds(f + " is final", Modifier.isFinal(f.getModifiers()));
                C.holds(f + " is of a type for constants", types.contains(f.getType()));
            }
        }
    }
}
