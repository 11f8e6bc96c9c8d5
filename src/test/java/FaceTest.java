import java.lang.reflect.Constructor;
import java.lang.reflect.Field;
import java.lang.reflect.Method;
import java.lang.reflect.Modifier;
import java.util.Arrays;
import java.util.NoSuchElementException;
import java.util.TreeSet;

/** The class has the document's face and no other member that can be seen. */
public final class FaceTest {
    private static final String[] METHODS = {
        "boolean wall(int, int)", "boolean row(int, int, int, int, int)", "boolean out(int, int)",
        "boolean span(int, int, int, int)", "boolean names(int, int, int)", "boolean once(int, int, boolean)",
        "int feed(long, long, long)", "int window(int)", "int value(int, int, int)", "int seen(int, int, int)",
        "int source(int, int, int, int)", "int look(int, int)", "boolean draft(int, int)",
        "int ways(int, int, int, int, int)", "int way(int, int, int, int, int, int, int)",
        "int why(int, int, int, int, int)", "int barred(int, int, int, int, int, int)",
        "int put(int, int, int, int, int)", "int twice(int, int, int, int, int)", "int back(int, int, int, int)",
        "int clash(int, int, int, int, int, int)", "int fits(int, int)", "boolean clerk(int, int, int, int)",
        "int night(int)", "int carried(int, int)", "int cuts(int, int, int)", "int moves(int, int, int, int)",
        "boolean mark(int, boolean)", "int count(int)"};

    public static void main(String[] args) throws Exception {
        Checks checks = new Checks("FaceTest");
        checks.part("face");
        Class<?> face = ThroughWindow.class;
        checks.yes("public final", Modifier.isPublic(face.getModifiers()) && Modifier.isFinal(face.getModifiers()));
        TreeSet<String> names = new TreeSet<>();
        TreeSet<String> found = new TreeSet<>();
        for (Method method : face.getDeclaredMethods()) {
            String text = method.getReturnType() + " " + method.getName()
                    + Arrays.toString(method.getParameterTypes()).replace('[', '(').replace(']', ')');
            if (!Modifier.isPrivate(method.getModifiers())) {
                found.add(text);
                names.add(method.getName());
            }
        }
        checks.yes("methods " + found, found.equals(new TreeSet<>(Arrays.asList(METHODS))));
        for (Field field : face.getDeclaredFields()) {
            boolean isNone = field.getName().equals("NONE");
            checks.yes("field " + field, isNone != Modifier.isPrivate(field.getModifiers()));
        }
        checks.due("NONE", ThroughWindow.NONE, -1);
        Constructor<?>[] constructors = face.getDeclaredConstructors();
        checks.due("constructors", constructors.length, 1);
        checks.due("its parameters", constructors[0].getParameterCount(), 0);
        checks.yes("it is public", Modifier.isPublic(constructors[0].getModifiers()));
        Class<?>[] thrown = face.getMethod("value", int.class, int.class, int.class).getExceptionTypes();
        checks.yes("value throws", thrown.length == 1 && thrown[0] == NoSuchElementException.class);
        checkInside(checks, face, names);
        checks.end();
    }

    /** Rule 1 of LANGUAGE.md for the classes inside: not seen from outside, no names of the face. */
    private static void checkInside(Checks checks, Class<?> face, TreeSet<String> names) {
        checks.yes("some twelve classes", face.getDeclaredClasses().length <= 12);
        for (Class<?> inside : face.getDeclaredClasses()) {
            int bits = inside.getModifiers();
            checks.yes(inside + " is static", Modifier.isStatic(bits));
            checks.no(inside + " is public or protected", Modifier.isPublic(bits) || Modifier.isProtected(bits));
            for (Method method : inside.getDeclaredMethods()) {
                checks.no(method + " bears a name of the face", names.contains(method.getName()));
            }
        }
        for (Method method : face.getDeclaredMethods()) {
            checks.no(method + " bears a name of the face",
                    Modifier.isPrivate(method.getModifiers()) && names.contains(method.getName()));
        }
    }
}
