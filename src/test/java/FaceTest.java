import java.lang.reflect.Constructor;
import java.lang.reflect.Field;
import java.lang.reflect.Member;
import java.lang.reflect.Method;
import java.lang.reflect.Modifier;
import java.util.Arrays;
import java.util.Set;
import java.util.TreeSet;
import java.util.stream.Collectors;

/** The class has the face of the document and no other member that is not private. */
public final class FaceTest {
    private static final String[] METHODS = {
        "int gate(int, int) throws IllegalArgumentException, UnsupportedOperationException",
        "void wire(int, int, int, int) throws NoSuchElementException, IllegalArgumentException",
        "void hold(int, int, int, int) throws NoSuchElementException, IllegalArgumentException",
        "int held(int, int, int) throws NoSuchElementException",
        "int registers(int, int) throws NoSuchElementException",
        "int gates() throws ",
        "boolean sound() throws ",
        "int period() throws IllegalStateException",
        "int weight(int, int) throws NoSuchElementException, IllegalStateException",
        "int delay(int, int) throws NoSuchElementException, IllegalStateException",
        "int least() throws IllegalStateException",
        "int shared() throws IllegalStateException",
        "int retime(int) throws IllegalStateException, IllegalArgumentException",
        "int label(int) throws NoSuchElementException",
        "int tick(int, int, int) throws IllegalStateException, IllegalArgumentException",
        "void restart() throws ",
    };

    public static void main(String[] args) {
        Due due = new Due("FaceTest");
        Class<MovedRegisters> face = MovedRegisters.class;
        due.isTrue("public and final", face.getModifiers() == (Modifier.PUBLIC | Modifier.FINAL));

        Set<String> methods = new TreeSet<>();
        for (Method method : face.getDeclaredMethods()) {
            if (!Modifier.isPrivate(method.getModifiers())) {
                due.same(method.getName(), Modifier.PUBLIC, () -> method.getModifiers());
                methods.add(method.getReturnType().getSimpleName() + " " + method.getName() + "("
                    + names(method.getParameterTypes()) + ") throws " + names(method.getExceptionTypes()));
            }
        }
        due.same("methods", new TreeSet<>(Arrays.asList(METHODS)), () -> methods);

        Set<String> publicNames = Arrays.stream(face.getMethods()).map(Method::getName).collect(Collectors.toSet());
        for (Method method : face.getDeclaredMethods()) {
            boolean hidden = Modifier.isPrivate(method.getModifiers());
            due.isTrue("own name of " + method.getName(), !hidden || !publicNames.contains(method.getName()));
        }

        due.same("fields", "[NONE, UNKNOWN]", () -> visible(face.getDeclaredFields()));
        due.same("UNKNOWN", 2, () -> MovedRegisters.UNKNOWN);
        due.same("NONE", -1, () -> MovedRegisters.NONE);
        for (Field field : face.getFields()) {
            int want = Modifier.PUBLIC | Modifier.STATIC | Modifier.FINAL;
            due.same(field.getName(), want, () -> field.getModifiers());
        }

        Constructor<?>[] constructors = face.getDeclaredConstructors();
        due.same("constructors", 1, () -> constructors.length);
        due.same("constructor", Modifier.PUBLIC, () -> constructors[0].getModifiers());
        due.same("constructor's arguments", 0, () -> constructors[0].getParameterCount());

        for (Class<?> inside : face.getDeclaredClasses()) {
            int modifiers = inside.getModifiers();
            due.isTrue(inside.getName() + " is hidden", !Modifier.isPublic(modifiers) && !Modifier.isProtected(modifiers));
            due.isTrue(inside.getName() + " is static", Modifier.isStatic(modifiers));
        }
        due.end();
    }

    private static String names(Class<?>[] types) {
        return Arrays.stream(types).map(Class::getSimpleName).collect(Collectors.joining(", "));
    }

    private static Object visible(Member[] members) {
        Set<String> names = new TreeSet<>();
        for (Member member : members) {
            if (!Modifier.isPrivate(member.getModifiers())) {
                names.add(member.getName());
            }
        }
        return names;
    }
}
