import java.lang.reflect.Constructor;
import java.lang.reflect.Field;
import java.lang.reflect.Method;
import java.lang.reflect.Modifier;
import java.util.Set;
import java.util.TreeSet;

/** The public face is the document's, and nothing else can be reached. */
public final class FaceTest {
    private static final String CALLS = "type/1 clear/0 room/0 wall/1 seat/2 curtain/2 pads/2 draws/3 moves/2 undo/0 mirror/3"
            + " path/4 heard/3 sound/2 early/3 fade/2 best/1 odds/4 sees/3 forget/0 unseen/1 listen/0 keep/1 back/1 count/1";

    private static boolean isIntCall(Method m) {
        boolean ints = m.getReturnType() == int.class;
        for (Class<?> c : m.getParameterTypes()) {
            ints &= c == int.class;
        }
        return ints;
    }

    public static void main(String[] args) {
        Set<String> due = new TreeSet<>(Set.of(CALLS.split(" ")));
        Set<String> names = new TreeSet<>();
        due.forEach(call -> names.add(call.substring(0, call.indexOf('/'))));
        Set<String> found = new TreeSet<>();
        for (Method m : EchoSeats.class.getDeclaredMethods()) {
            boolean isPrivate = Modifier.isPrivate(m.getModifiers());
            if (!isPrivate) {
                found.add(m.getName() + "/" + m.getParameterCount());
                Due.holds(m + " is public and of ints", Modifier.isPublic(m.getModifiers()) && isIntCall(m));
            }
            Due.holds(m + " does not share a public name", !isPrivate || !names.contains(m.getName()));
        }
        System.out.println(found.equals(due) ? "the calls are the document's" : "calls found: " + found);
        Due.holds("the calls", found.equals(due));
        Set<String> constants = new TreeSet<>();
        for (Field f : EchoSeats.class.getDeclaredFields()) {
            if (!Modifier.isPrivate(f.getModifiers())) constants.add(f.getName());
        }
        Due.holds("the constants " + constants, constants.equals(new TreeSet<>(Set.of("BAD", "STATE", "FULL", "NONE", "NO"))));
        Due.is("BAD", EchoSeats.BAD, -1);
        Due.is("STATE", EchoSeats.STATE, -2);
        Due.is("FULL", EchoSeats.FULL, -3);
        Due.is("NONE", EchoSeats.NONE, -9);
        Due.is("NO", EchoSeats.NO, -1000000);
        Constructor<?>[] made = EchoSeats.class.getDeclaredConstructors();
        Due.holds("one constructor, without numbers", made.length == 1 && made[0].getParameterCount() == 0);
        int kind = EchoSeats.class.getModifiers();
        Due.holds("public and final", Modifier.isPublic(kind) && Modifier.isFinal(kind));
        for (Class<?> inside : EchoSeats.class.getDeclaredClasses()) {
            Due.holds(inside + " is static", Modifier.isStatic(inside.getModifiers()));
            for (Method m : inside.getDeclaredMethods()) {
                Due.holds(m + " does not share a public name", !names.contains(m.getName()));
            }
        }
        Due.end();
    }
}
