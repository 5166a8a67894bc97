import java.lang.reflect.Field;
import java.lang.reflect.Method;
import java.lang.reflect.Modifier;
import java.util.ArrayList;
import java.util.HashSet;
import java.util.List;
import java.util.Set;

/** Those rules of LANGUAGE.md that can be seen in the compiled classes. */
public final class LanguageTest {
    private static final Set<Class<?>> CONSTANTS =
        Set.of(int.class, long.class, boolean.class, char.class, String.class,
            int[].class, long[].class, char[].class, byte[].class);

    private static final Check CHECK = new Check();

    public static void main(String[] args) {
        List<Class<?>> classes = new ArrayList<>(List.of(RoomMaker.class.getDeclaredClasses()));
        for (Class<?> inside : classes) {
            CHECK.yes("rule 1: " + inside.getName() + " is static, and private or package-visible",
                Modifier.isStatic(inside.getModifiers()) && !seenFromOutside(inside.getModifiers()));
        }
        classes.add(RoomMaker.class);
        CHECK.yes("rule 11: at most twelve classes", classes.size() <= 12);
        for (Class<?> each : classes) {
            methods(each);
            fields(each);
        }
        CHECK.end();
    }

    private static boolean seenFromOutside(int modifiers) {
        return Modifier.isPublic(modifiers) || Modifier.isProtected(modifiers);
    }

    private static void methods(Class<?> each) {
        Set<String> face = new HashSet<>();
        for (Method method : RoomMaker.class.getMethods()) {
            face.add(method.getName());
        }
        for (Method method : each.getDeclaredMethods()) {
            String name = each.getSimpleName() + "." + method.getName();
            CHECK.yes("rule 1: the face has no other " + name,
                !Modifier.isPrivate(method.getModifiers()) || !face.contains(method.getName()));
            CHECK.yes("rule 2: no lambda is behind " + name, !method.isSynthetic());
            CHECK.yes("rule 6: not synchronized is " + name,
                !Modifier.isSynchronized(method.getModifiers()));
            CHECK.yes("rule 11: at most seven parameters has " + name, method.getParameterCount() <= 7);
        }
    }

    private static void fields(Class<?> each) {
        int fields = 0;
        for (Field field : each.getDeclaredFields()) {
            String name = each.getSimpleName() + "." + field.getName();
            if (Modifier.isStatic(field.getModifiers())) {
                CHECK.yes("rule 5: a final constant is " + name,
                    Modifier.isFinal(field.getModifiers()) && CONSTANTS.contains(field.getType()));
            } else {
                fields++;
            }
        }
        CHECK.yes("rule 11: at most twenty fields has " + each.getName(), fields <= 20);
    }
}
