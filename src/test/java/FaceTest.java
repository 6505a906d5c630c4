import java.lang.reflect.Constructor;
import java.lang.reflect.Field;
import java.lang.reflect.Method;
import java.lang.reflect.Modifier;
import java.util.Arrays;
import java.util.Set;
import java.util.TreeSet;

/** The public face, promise 1, and that a nested class is private and static. */
public final class FaceTest {
    private static final String[] FACE = {
        "boolean type(char)",
        "int command() throws IllegalArgumentException, IllegalStateException",
        "void edit(int) throws IndexOutOfBoundsException, IllegalArgumentException",
        "void drop(int) throws IndexOutOfBoundsException",
        "int commands()",
        "int put(int, short)",
        "boolean remove(int)",
        "int run(int) throws IllegalArgumentException, IllegalStateException",
        "int did(int)",
        "int why(int)",
        "int hazard(int)",
        "int again()",
        "int traces()",
        "int trace(int, int) throws IndexOutOfBoundsException",
        "boolean tear(int)",
        "int compact()",
        "int size(int)",
        "short number(int, int) throws IndexOutOfBoundsException",
    };

    private static String listed(Class<?>[] types) {
        StringBuilder text = new StringBuilder();
        for (Class<?> type : types) {
            text.append(text.length() == 0 ? "" : ", ").append(type.getSimpleName());
        }
        return text.toString();
    }

    private static String written(Method method) {
        String thrown = listed(method.getExceptionTypes());
        return method.getReturnType().getSimpleName() + " " + method.getName() + "(" + listed(method.getParameterTypes())
            + ")" + (thrown.isEmpty() ? "" : " throws " + thrown);
    }

    private static void checkFace(Check check) {
        Class<?> type = TracedBuild.class;
        check.due("the class is public and final", type.getModifiers(), Modifier.PUBLIC | Modifier.FINAL);
        Set<String> seen = new TreeSet<>();
        Set<String> names = new TreeSet<>();
        for (Method method : type.getDeclaredMethods()) {
            if (Modifier.isPublic(method.getModifiers())) {
                seen.add(written(method));
                names.add(method.getName());
            }
        }
        for (Method method : type.getDeclaredMethods()) {
            int modifiers = method.getModifiers();
            check.due(method.getName() + " is public or private",
                Modifier.isPublic(modifiers) || Modifier.isPrivate(modifiers), true);
            check.due(method.getName() + " is private under a public name",
                Modifier.isPrivate(modifiers) && names.contains(method.getName()), false);
        }
        check.due("the face is " + seen, seen.equals(new TreeSet<>(Arrays.asList(FACE))), true);
        for (Field field : type.getDeclaredFields()) {
            check.due(field.getName() + " is private", Modifier.isPrivate(field.getModifiers()), true);
        }
        Constructor<?>[] constructors = type.getDeclaredConstructors();
        check.due("constructors", constructors.length, 1);
        check.due("parameters of the constructor", constructors[0].getParameterCount(), 0);
        check.due("the constructor is public", Modifier.isPublic(constructors[0].getModifiers()), true);
        for (Class<?> nested : type.getDeclaredClasses()) {
            int modifiers = nested.getModifiers();
            check.due(nested.getName() + " is hidden and static",
                Modifier.isStatic(modifiers) && !Modifier.isPublic(modifiers) && !Modifier.isProtected(modifiers), true);
        }
    }

    private static void checkNewObject(Check check) {
        TracedBuild x = new TracedBuild();
        check.due("commands of a new object", x.commands(), 0);
        check.due("traces of a new object", x.traces(), 0);
        check.due("again of a new object", x.again(), 0);
        check.noHazard("a new object", x);
        for (int file = -1; file <= 12; file++) {
            check.gone("file " + file + " of a new object", x, file);
            check.due("remove in a new object", x.remove(file), false);
        }
        for (int k = -1; k <= 10; k++) {
            check.due("did of a new object", x.did(k), -1);
            check.due("why of a new object", x.why(k), -1);
        }
        check.throwing("trace of a new object", IndexOutOfBoundsException.class, () -> x.trace(0, 0));
        check.throwing("run of a new object", IllegalStateException.class, () -> x.run(0));
        check.throwing("number of a new object", IndexOutOfBoundsException.class, () -> x.number(0, 0));
        TracedBuild other = Check.scripted("n1a");
        other.run(0);
        check.due("another object has its own files", x.size(0), -1);
        check.due("another object has its own script", x.commands(), 0);
    }

    public static void main(String[] args) {
        Check check = new Check("FaceTest");
        checkFace(check);
        checkNewObject(check);
        check.end();
    }
}
