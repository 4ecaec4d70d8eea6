import java.lang.reflect.Constructor;
import java.lang.reflect.Field;
import java.lang.reflect.Method;
import java.lang.reflect.Modifier;
import java.util.ArrayList;
import java.util.Arrays;
import java.util.List;
import java.util.Set;
import java.util.TreeSet;

/** The public face is the document's, and no other member is seen from outside. */
final class FaceTest {
    private static final String[] FACE = {
        "int addHabit(int, int, int, int, int) IndexOutOfBoundsException IllegalArgumentException"
            + " IllegalStateException",
        "int addScribe() IllegalStateException",
        "int advise(int) IndexOutOfBoundsException IllegalStateException",
        "int common(int, int) IndexOutOfBoundsException",
        "int copy(int, int) IndexOutOfBoundsException IllegalStateException",
        "int count(int) IndexOutOfBoundsException",
        "double decay()",
        "long digest()",
        "int distance(int, int) IndexOutOfBoundsException",
        "int dropHabit(int, int) IndexOutOfBoundsException",
        "int emend(int, int, int, int) IndexOutOfBoundsException IllegalArgumentException IllegalStateException",
        "int feed(int, int, int, int, int) IllegalStateException",
        "int find(int, int, int, int) IndexOutOfBoundsException IllegalArgumentException",
        "int guess(int) IndexOutOfBoundsException",
        "int habit(int, int, int) IndexOutOfBoundsException",
        "int letter(int, int) IndexOutOfBoundsException",
        "int lose(int) IndexOutOfBoundsException IllegalStateException",
        "int manuscript(int, int) IndexOutOfBoundsException",
        "int trial(int, int, int, int) IndexOutOfBoundsException IllegalArgumentException IllegalStateException",
        "int trim(int) IllegalArgumentException",
        "int vote(int) IndexOutOfBoundsException",
        "int voteDistance(int) IndexOutOfBoundsException",
        "int voteLength()",
        "int write() IllegalStateException",
    };

    public static void main(String[] args) {
        Class<?> face = CopyHouse.class;
        Check.due("public and final", Modifier.isPublic(face.getModifiers()) && Modifier.isFinal(face.getModifiers()));
        Check.due("no class above it", face.getSuperclass() == Object.class && face.getInterfaces().length == 0);
        constructors(face);
        methods(face);
        fields(face);
        classesInside(face);
        Check.end();
    }

    private static void constructors(Class<?> face) {
        Constructor<?>[] all = face.getDeclaredConstructors();
        Check.due("constructors", all.length, 1);
        Check.due("it is public", Modifier.isPublic(all[0].getModifiers()));
        Check.due("its parameters", all[0].getParameterCount(), 0);
    }

    private static void methods(Class<?> face) {
        Set<String> seen = new TreeSet<String>();
        Set<String> names = new TreeSet<String>();
        for (Method one : face.getDeclaredMethods()) {
            if (!Modifier.isPrivate(one.getModifiers()) && !one.isSynthetic()) {
                Check.due(one.getName() + " is public, and no more", one.getModifiers(), Modifier.PUBLIC);
                seen.add(told(one));
                names.add(one.getName());
            }
        }
        Check.due("methods", seen.toString(), new TreeSet<String>(Arrays.asList(FACE)).toString());
        for (Method one : face.getDeclaredMethods()) {
            Check.due("a private method's name is its own: " + one.getName(),
                    !Modifier.isPrivate(one.getModifiers()) || !names.contains(one.getName()));
        }
    }

    private static String told(Method one) {
        List<String> parameters = new ArrayList<String>();
        for (Class<?> type : one.getParameterTypes()) {
            parameters.add(type.getSimpleName());
        }
        StringBuilder all = new StringBuilder(one.getReturnType().getSimpleName() + " " + one.getName());
        all.append("(" + String.join(", ", parameters) + ")");
        for (Class<?> type : one.getExceptionTypes()) {
            all.append(" " + type.getSimpleName());
        }
        return all.toString();
    }

    private static void fields(Class<?> face) {
        for (Field one : face.getDeclaredFields()) {
            Check.due("a field is private: " + one.getName(), Modifier.isPrivate(one.getModifiers()));
            Check.due("a static field is final: " + one.getName(),
                    !Modifier.isStatic(one.getModifiers()) || Modifier.isFinal(one.getModifiers()));
        }
    }

    private static void classesInside(Class<?> face) {
        for (Class<?> one : face.getDeclaredClasses()) {
            Check.due("a class inside is static: " + one.getName(), Modifier.isStatic(one.getModifiers()));
            Check.due("a class inside is not seen from outside: " + one.getName(),
                    !Modifier.isPublic(one.getModifiers()) && !Modifier.isProtected(one.getModifiers()));
        }
    }
}
