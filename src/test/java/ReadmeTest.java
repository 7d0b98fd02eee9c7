import java.io.IOException;
import java.lang.reflect.InvocationTargetException;
import java.lang.reflect.Method;
import java.lang.reflect.Modifier;
import java.nio.file.Files;
import java.nio.file.Path;
import java.util.ArrayList;
import java.util.List;
import java.util.Set;
import java.util.TreeSet;
import java.util.regex.Matcher;
import java.util.regex.Pattern;

/** The calls that README.md tells of, in its order, each answer held against the one that stands behind the call. */
public final class ReadmeTest {
    private static final Pattern MADE = Pattern.compile("(?:SliceWright )?s = new SliceWright\\(\\);");
    /** The answer ends with the line, or with a colon and a blank behind which it is explained. */
    private static final Pattern CALL = Pattern.compile("s\\.(\\w+)\\((.*)\\);\\s*// (\\S+?)(?:: .*)?");

    private static final Set<String> called = new TreeSet<>();
    private static SliceWright object;

    private ReadmeTest() {
    }

    public static void main(String[] args) throws IOException {
        List<String> lines = Files.readAllLines(Path.of("README.md"));
        boolean isJava = false;
        for (String line : lines) {
            if (line.startsWith("```")) {
                isJava = line.equals("```java");
            } else if (isJava && !line.isBlank()) {
                doLine(line);
            }
        }
        Check.same("the calls in README.md", called.toString(), namesOfTheFace().toString());
        Check.same("README.md tells how to run the tests", lines.contains(".ci/run"), true);
        Check.end();
    }

    private static void doLine(String line) {
        Matcher call = CALL.matcher(line);
        if (MADE.matcher(line).matches()) {
            object = new SliceWright();
        } else if (call.matches()) {
            called.add(call.group(1));
            Check.same(line, answer(call.group(1), call.group(2)), call.group(3));
        } else {
            Check.same("a line that can be tested", line, "a call with its answer");
        }
    }

    private static Set<String> namesOfTheFace() {
        Set<String> names = new TreeSet<>();
        for (Method method : SliceWright.class.getDeclaredMethods()) {
            if (Modifier.isPublic(method.getModifiers())) {
                names.add(method.getName());
            }
        }
        return names;
    }

    private static String answer(String name, String arguments) {
        for (Method method : SliceWright.class.getDeclaredMethods()) {
            if (method.getName().equals(name)) {
                return answer(method, arguments);
            }
        }
        return "no such call";
    }

    private static String answer(Method method, String arguments) {
        List<Object> values = new ArrayList<>();
        for (String argument : arguments.isEmpty() ? new String[0] : arguments.split(", ")) {
            values.add(valueOf(argument));
        }
        try {
            return asWritten(method.invoke(object, values.toArray()));
        } catch (InvocationTargetException e) {
            return e.getCause().getClass().getSimpleName();
        } catch (IllegalAccessException | IllegalArgumentException e) {
            return "not a call of the face";
        }
    }

    private static Object valueOf(String argument) {
        if (argument.startsWith("'")) {
            return argument.charAt(1);
        }
        return argument.equals("true") || argument.equals("false") ? Boolean.valueOf(argument)
                : (Object) Integer.valueOf(argument);
    }

    /** As it would be written in Java, so that the sort of an answer can be seen too. */
    private static String asWritten(Object value) {
        if (value instanceof Character) {
            return "'" + value + "'";
        }
        return value + (value instanceof Long ? "L" : value instanceof Float ? "f" : "");
    }
}
