import java.lang.reflect.Constructor;
import java.lang.reflect.Member;
import java.lang.reflect.Method;
import java.lang.reflect.Modifier;
import java.util.Arrays;
import java.util.Map;
import java.util.TreeMap;
import java.util.stream.Collectors;

/** The public face: just what the document tells of it, and nothing else that is not private. */
public final class FaceTest {
    private static final String[] FACE = {
        "int sign(long, int) IndexOutOfBoundsException UnsupportedOperationException",
        "int read() IllegalStateException",
        "int place()",
        "void person(int, int, int) IllegalArgumentException IndexOutOfBoundsException",
        "void skill(int, int, int) IllegalArgumentException IndexOutOfBoundsException",
        "void duty(int, int, int) IllegalArgumentException IndexOutOfBoundsException",
        "void kind(int, int) IllegalArgumentException IndexOutOfBoundsException",
        "int join(int, int) IllegalArgumentException IllegalStateException UnsupportedOperationException",
        "int leave(int, int) IllegalArgumentException IllegalStateException",
        "int verdict(int, int) IllegalArgumentException IndexOutOfBoundsException",
        "int counts(int) IllegalArgumentException",
        "int having(int, int, int, int) IllegalArgumentException IndexOutOfBoundsException",
        "int leader(int) IllegalArgumentException",
        "int never(int, int) IndexOutOfBoundsException",
        "int rule(int, int) IllegalArgumentException",
    };

    public static void main(String[] args) {
        theClass();
        theConstructor();
        theMethods();
        Check.end();
    }

    private static void theClass() {
        int modifiers = CrewRules.class.getModifiers();
        yes("the class is public", Modifier.isPublic(modifiers));
        yes("the class is final", Modifier.isFinal(modifiers));
        yes("it has no package", CrewRules.class.getPackageName().isEmpty());
        yes("it extends nothing", CrewRules.class.getSuperclass() == Object.class);
        yes("it implements nothing", CrewRules.class.getInterfaces().length == 0);
        for (Member field : CrewRules.class.getDeclaredFields()) {
            yes("private: " + field, isOfNoConcern(field));
        }
        for (Class<?> inside : CrewRules.class.getDeclaredClasses()) {
            yes("static: " + inside, Modifier.isStatic(inside.getModifiers()));
            yes("not public: " + inside, !Modifier.isPublic(inside.getModifiers()) && !Modifier.isProtected(inside.getModifiers()));
        }
    }

    private static void theConstructor() {
        Constructor<?>[] all = CrewRules.class.getDeclaredConstructors();
        Check.due("constructors", all.length, 1);
        yes("it is public", Modifier.isPublic(all[0].getModifiers()));
        Check.due("its parameters", all[0].getParameterCount(), 0);
        Check.due("what it throws", all[0].getExceptionTypes().length, 0);
    }

    private static void theMethods() {
        Map<String, String> seen = new TreeMap<>();
        for (Method method : CrewRules.class.getDeclaredMethods()) {
            if (!isOfNoConcern(method)) {
                yes("public, of the object: " + method, (method.getModifiers() & ~Modifier.FINAL) == Modifier.PUBLIC);
                yes("one method of its name: " + method, seen.put(method.getName(), written(method)) == null);
            }
        }
        for (String due : FACE) {
            yes("the face has " + due, seen.containsValue(due));
        }
        Check.due("methods of the face", seen.size(), FACE.length);
        for (Method method : CrewRules.class.getDeclaredMethods()) {
            yes("bears no name of the face: " + method, !isOfNoConcern(method) || !seen.containsKey(method.getName()));
        }
    }

    private static boolean isOfNoConcern(Member member) {
        return Modifier.isPrivate(member.getModifiers()) || member.isSynthetic();
    }

    private static String written(Method method) {
        String parameters = names(method.getParameterTypes(), ", ");
        String thrown = names(method.getExceptionTypes(), " ");
        return (method.getReturnType().getSimpleName() + " " + method.getName() + "(" + parameters + ") " + thrown).strip();
    }

    private static String names(Class<?>[] classes, String between) {
        return Arrays.stream(classes).map(Class::getSimpleName).collect(Collectors.joining(between));
    }

    private static void yes(String what, boolean holds) {
        Check.due(what, holds ? 1 : 0, 1);
    }
}
