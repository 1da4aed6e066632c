import java.lang.reflect.Constructor;
import java.lang.reflect.Field;
import java.lang.reflect.Method;
import java.lang.reflect.Modifier;
import java.util.Set;
import java.util.TreeSet;

/** The public face: what the document shows and nothing else. */
public final class FaceTest {
    private static final String[] FACE = {
        "void nodes(int) IllegalArgumentException NegativeArraySizeException",
        "int send(int int int int) IndexOutOfBoundsException IllegalArgumentException IllegalStateException",
        "void octet(int int int) IndexOutOfBoundsException IllegalArgumentException IllegalStateException",
        "int stuffed(int) IndexOutOfBoundsException",
        "void filter(int int int) IndexOutOfBoundsException",
        "void flip(int int) IndexOutOfBoundsException IllegalArgumentException",
        "int run(int) IllegalArgumentException IllegalStateException",
        "int time()",
        "int bit(int) ArrayIndexOutOfBoundsException",
        "int check(int int int) IllegalArgumentException IndexOutOfBoundsException",
        "int state(int) IndexOutOfBoundsException",
        "int waiting(int) IndexOutOfBoundsException",
        "int done(int int) IndexOutOfBoundsException IllegalArgumentException",
        "int taken(int int int) IndexOutOfBoundsException IllegalArgumentException",
        "int takenOctet(int int int) IndexOutOfBoundsException",
        "int error(int int) IndexOutOfBoundsException IllegalArgumentException"};

    private static String textOf(Method method) {
        StringBuilder text = new StringBuilder(method.getReturnType() + " " + method.getName() + "(");
        for (int i = 0; i < method.getParameterCount(); i++) {
            text.append(i == 0 ? "" : " ").append(method.getParameterTypes()[i]);
        }
        text.append(")");
        for (Class<?> thrown : method.getExceptionTypes()) {
            text.append(" ").append(thrown.getSimpleName());
        }
        return text.toString();
    }

    public static void main(String[] args) {
        Due.same("the class", "public final", Modifier.toString(CanBits.class.getModifiers()));
        Set<String> names = new TreeSet<>();
        Set<String> shown = new TreeSet<>();
        Set<String> hidden = new TreeSet<>();
        for (Method method : CanBits.class.getDeclaredMethods()) {
            if (Modifier.isPublic(method.getModifiers())) {
                shown.add(textOf(method));
                names.add(method.getName());
            } else {
                hidden.add(method.getName());
                Due.is(method + " is private", 1, () -> Modifier.isPrivate(method.getModifiers()) ? 1 : 0);
            }
        }
        Due.same("the methods", new TreeSet<>(Set.of(FACE)).toString(), shown.toString());
        hidden.retainAll(names);
        Due.same("private methods with public names", "[]", hidden.toString());
        for (Field field : CanBits.class.getDeclaredFields()) {
            boolean isNone = field.getName().equals("NONE");
            Due.is(field + " is as it should be", isNone ? Modifier.PUBLIC : Modifier.PRIVATE,
                    () -> field.getModifiers() & (Modifier.PUBLIC | Modifier.PRIVATE | Modifier.PROTECTED));
        }
        Due.is("constructors", 1, () -> CanBits.class.getDeclaredConstructors().length);
        for (Constructor<?> constructor : CanBits.class.getDeclaredConstructors()) {
            Due.same("the constructor", "public CanBits()", constructor.toString());
        }
        Due.end();
    }
}
