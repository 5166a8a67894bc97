import java.io.IOException;
import java.lang.reflect.Method;
import java.lang.reflect.Modifier;
import java.nio.file.Files;
import java.nio.file.Path;
import java.util.Set;
import java.util.TreeSet;
import java.util.regex.Matcher;
import java.util.regex.Pattern;

/** The example in README.md answers what its comments say, and leaves out no call of the face. */
public final class ReadmeTest {
    private static final Pattern CALL =
        Pattern.compile("maker\\.(\\w+)\\((.*)\\);\\s*// (-?\\d+|true|false): .+");

    private static final Check CHECK = new Check();

    public static void main(String[] args) throws IOException {
        RoomMaker maker = new RoomMaker();
        Set<String> called = new TreeSet<>();
        for (String line : Files.readAllLines(Path.of("README.md"))) {
            if (line.startsWith("maker.")) {
                called.add(answersAsSaid(maker, line));
            }
        }
        Set<String> face = new TreeSet<>();
        for (Method method : RoomMaker.class.getDeclaredMethods()) {
            if (Modifier.isPublic(method.getModifiers())) {
                face.add(method.getName());
            }
        }
        CHECK.same("the calls in the example", face.toString(), called.toString());
        CHECK.end();
    }

    private static String answersAsSaid(RoomMaker maker, String line) {
        Matcher call = CALL.matcher(line);
        if (!call.matches()) {
            CHECK.yes("a call with its answer is: " + line, false);
            return line;
        }
        CHECK.same(line, call.group(3), answer(maker, call.group(1), call.group(2)));
        return call.group(1);
    }

    private static String answer(RoomMaker maker, String name, String written) {
        String[] words = written.isEmpty() ? new String[0] : written.split(", ");
        Class<?>[] types = new Class<?>[words.length];
        Object[] arguments = new Object[words.length];
        for (int i = 0; i < words.length; i++) {
            boolean isNumber = words[i].matches("-?\\d+");
            types[i] = isNumber ? int.class : boolean.class;
            arguments[i] = isNumber ? (Object) Integer.valueOf(words[i]) : Boolean.valueOf(words[i]);
        }
        try {
            return RoomMaker.class.getMethod(name, types).invoke(maker, arguments).toString();
        } catch (ReflectiveOperationException e) {
            return e.toString();
        }
    }
}
