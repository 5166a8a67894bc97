import java.lang.reflect.Field;
import java.lang.reflect.Method;
import java.lang.reflect.Modifier;
import java.util.Arrays;
import java.util.List;
import java.util.Set;
import java.util.TreeSet;

/** The public face is the document's, to the letter, and nothing else can be seen from outside. */
public final class FaceTest {
    private static final List<String> METHODS = List.of(
        "int put(int,int,int,int) throws IllegalArgumentException",
        "int clear()",
        "int give(int)",
        "int build(int) throws IllegalArgumentException,IllegalStateException",
        "int span(int,boolean) throws IndexOutOfBoundsException",
        "boolean lives(int,int) throws IndexOutOfBoundsException",
        "int place(int) throws IndexOutOfBoundsException",
        "int pressure()",
        "int run(int) throws IllegalStateException,IllegalArgumentException",
        "boolean restart()",
        "int value(int) throws IllegalStateException,IndexOutOfBoundsException",
        "int output(int)",
        "int count(int)");

    private static final Check CHECK = new Check();

    public static void main(String[] args) {
        Class<?> face = RoomMaker.class;
        CHECK.yes("the class is public and final",
            Modifier.isPublic(face.getModifiers()) && Modifier.isFinal(face.getModifiers()));
        CHECK.due("constructors", 1, () -> face.getDeclaredConstructors().length);
        CHECK.due("public constructors", 1, () -> face.getConstructors().length);
        CHECK.due("NONE", -1, () -> RoomMaker.NONE);
        methods(face);
        fields(face);
        CHECK.end();
    }

    private static void methods(Class<?> face) {
        Set<String> seen = new TreeSet<>();
        for (Method method : face.getDeclaredMethods()) {
            if (Modifier.isPrivate(method.getModifiers())) {
                continue;
            }
            CHECK.yes(method.getName() + " is public", Modifier.isPublic(method.getModifiers()));
            seen.add(shapeOf(method));
        }
        CHECK.same("the methods", new TreeSet<>(METHODS).toString(), seen.toString());
    }

    private static String shapeOf(Method method) {
        String thrown = names(method.getExceptionTypes());
        return method.getReturnType().getSimpleName() + " " + method.getName()
            + "(" + names(method.getParameterTypes()) + ")"
            + (thrown.isEmpty() ? "" : " throws " + thrown);
    }

    private static String names(Class<?>[] types) {
        return String.join(",", Arrays.stream(types).map(Class::getSimpleName).toList());
    }

    private static void fields(Class<?> face) {
        for (Field field : face.getDeclaredFields()) {
            CHECK.yes(field.getName() + " is private or NONE",
                Modifier.isPrivate(field.getModifiers()) || field.getName().equals("NONE"));
        }
    }
}
