import java.lang.reflect.Constructor;
import java.lang.reflect.Field;
import java.lang.reflect.Member;
import java.lang.reflect.Method;
import java.lang.reflect.Modifier;
import java.util.Arrays;
import java.util.Set;
import java.util.TreeSet;

/** The public face of the document, and no member beside it that others could see. */
public final class FaceTest {
    private static final String[] METHODS = {
        "int account(long, int, int)", "int lock(int, int, int)", "long funds(int)", "int next(int)", "int sign(int, long)",
        "int draft(int, int, int, int)", "int until(int)", "int from(int)", "int sponsor(int)", "int act(int, long)",
        "int add(int)", "long digest()", "int offer()", "int step(int)", "int block(int)", "int waiting(int, int)",
        "int event(int, int)", "long paid()", "int told(int)",
    };

    public static void main(String[] args) {
        Class<?> face = SignedCalls.class;
        Due.holds("public and final", Modifier.isPublic(face.getModifiers()) && Modifier.isFinal(face.getModifiers()));
        constants();
        constructors(face);
        methods(face);
        fields(face);
        nested(face);
        Due.end();
    }

    private static void constants() {
        Due.is("BAD", SignedCalls.BAD, -1);
        Due.is("NONE", SignedCalls.NONE, -2);
        Due.is("FULL", SignedCalls.FULL, -3);
    }

    private static boolean isPrivate(Member member) {
        return Modifier.isPrivate(member.getModifiers());
    }

    private static void constructors(Class<?> face) {
        Constructor<?>[] all = face.getDeclaredConstructors();
        Due.is("constructors", all.length, 1);
        Due.holds("a public one without arguments", Modifier.isPublic(all[0].getModifiers()) && all[0].getParameterCount() == 0);
    }

    private static String told(Method method) {
        String parameters = Arrays.toString(method.getParameterTypes());
        return method.getReturnType() + " " + method.getName() + "(" + parameters.substring(1, parameters.length() - 1) + ")";
    }

    private static void methods(Class<?> face) {
        Set<String> seen = new TreeSet<>();
        Set<String> names = new TreeSet<>();
        for (Method method : face.getDeclaredMethods()) {
            if (!isPrivate(method)) {
                Due.holds(told(method) + " is public and of the object", method.getModifiers() == Modifier.PUBLIC);
                seen.add(told(method));
                names.add(method.getName());
            }
            Due.holds(told(method) + " takes seven at most", method.getParameterCount() <= 7);
        }
        Set<String> due = new TreeSet<>(Arrays.asList(METHODS));
        Due.holds("methods are " + due + ", seen " + seen, due.equals(seen));
        for (Method method : face.getDeclaredMethods()) {
            Due.holds("private " + told(method) + " has a name of its own", !isPrivate(method) || !names.contains(method.getName()));
        }
    }

    private static void fields(Class<?> face) {
        Set<String> seen = new TreeSet<>();
        for (Field field : face.getDeclaredFields()) {
            if (!isPrivate(field)) {
                seen.add(field.getName());
                Due.holds(field + " is a constant", field.getModifiers() == (Modifier.PUBLIC | Modifier.STATIC | Modifier.FINAL));
                Due.holds(field + " is an int", field.getType() == int.class);
            }
            Due.holds(field + ": static is final", !Modifier.isStatic(field.getModifiers()) || Modifier.isFinal(field.getModifiers()));
        }
        Due.holds("constants are BAD, FULL, NONE, seen " + seen, seen.equals(Set.of("BAD", "FULL", "NONE")));
    }

    private static void nested(Class<?> face) {
        Class<?>[] inside = face.getDeclaredClasses();
        Due.holds("twelve classes at most", inside.length < 12);
        for (Class<?> one : inside) {
            int modifiers = one.getModifiers();
            Due.holds(one + " is static", Modifier.isStatic(modifiers));
            Due.holds(one + " is not for others", !Modifier.isPublic(modifiers) && !Modifier.isProtected(modifiers));
            Due.holds(one + " has no classes inside", one.getDeclaredClasses().length == 0);
        }
    }
}
