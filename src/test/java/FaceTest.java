import java.io.IOException;
import java.lang.reflect.Executable;
import java.lang.reflect.Field;
import java.lang.reflect.Method;
import java.lang.reflect.Modifier;
import java.nio.file.Files;
import java.nio.file.Path;
import java.util.ArrayList;
import java.util.Arrays;
import java.util.HashSet;
import java.util.List;
import java.util.Set;
import java.util.TreeSet;

/** The public face as the document has it, and some rules of the language that can be seen from outside. */
public final class FaceTest {
    private static final String[] FACE = {
        "int box(int, int, int, int, int, int, boolean) IllegalArgumentException",
        "int set(char, int) IllegalArgumentException",
        "char setPattern(char) IllegalArgumentException",
        "int setThickness(int, int) IndexOutOfBoundsException IllegalArgumentException",
        "boolean setPause(int, boolean) IndexOutOfBoundsException",
        "char kindAt(int, int, int) IndexOutOfBoundsException",
        "int hanging(int) IndexOutOfBoundsException",
        "int outer(int) IndexOutOfBoundsException",
        "int inner(int) IndexOutOfBoundsException",
        "int outlinesByEdges(int) IndexOutOfBoundsException",
        "int edges(int) IndexOutOfBoundsException",
        "int strokes(int) IndexOutOfBoundsException",
        "int plan() IllegalStateException",
        "int commands()",
        "char commandAt(int) IndexOutOfBoundsException",
        "int numberAt(int, char) IndexOutOfBoundsException IllegalArgumentException NoSuchElementException",
        "int travel()",
        "long planned()",
        "int setTarget(int) IllegalArgumentException IllegalStateException",
        "int print() IllegalStateException",
        "int pass(int) IllegalArgumentException",
        "int goOn() IllegalStateException",
        "char fail() IllegalStateException",
        "char mend() IllegalStateException",
        "char cut()",
        "int resume() IllegalStateException",
        "char state()",
        "int next()",
        "int speed()",
        "int temperature()",
        "long time()",
        "int laid(int, int, int) IndexOutOfBoundsException",
        "long laidInAll()",
        "float emptyShare() ArithmeticException",
        "double meanStroke() ArithmeticException",
    };
    private static final String[] RULED_OUT = {
        "->", "::", "catch", "finally", "synchronized", "assert ", "Exact(", "System.out", "Random", "nanoTime",
        "Thread", "lambda", "var ", "hashCode", "getMessage", "package ", "static {",
    };

    public static void main(String[] args) throws IOException {
        methods();
        constructors();
        members();
        classesInside();
        source();
        Check.end();
    }

    private static String told(Method method) {
        StringBuilder text = new StringBuilder(method.getReturnType().getSimpleName());
        List<String> types = new ArrayList<>();
        for (Class<?> type : method.getParameterTypes()) {
            types.add(type.getSimpleName());
        }
        text.append(' ').append(method.getName()).append('(').append(String.join(", ", types)).append(')');
        for (Class<?> type : method.getExceptionTypes()) {
            text.append(' ').append(type.getSimpleName());
        }
        return text.toString();
    }

    private static void methods() {
        Set<String> got = new TreeSet<>();
        Set<String> publicNames = new HashSet<>();
        for (Method method : SliceWright.class.getDeclaredMethods()) {
            if (Modifier.isPublic(method.getModifiers())) {
                got.add(told(method));
                publicNames.add(method.getName());
                Check.same(method.getName() + " is static", Modifier.isStatic(method.getModifiers()), false);
            }
        }
        Check.same("the public methods", got.toString(), new TreeSet<>(Arrays.asList(FACE)).toString());
        for (Method method : SliceWright.class.getDeclaredMethods()) {
            if (!Modifier.isPublic(method.getModifiers())) {
                Check.same(method.getName() + " bears a public name", publicNames.contains(method.getName()), false);
            }
        }
    }

    private static void constructors() {
        Check.same("constructors", SliceWright.class.getDeclaredConstructors().length, 1);
        Executable constructor = SliceWright.class.getDeclaredConstructors()[0];
        Check.same("the constructor is public", Modifier.isPublic(constructor.getModifiers()), true);
        Check.same("its parameters", constructor.getParameterCount(), 0);
        Check.same("its exceptions", constructor.getExceptionTypes().length, 0);
        Check.same("the class", Modifier.toString(SliceWright.class.getModifiers()), "public final");
    }

    private static void members() {
        for (Method method : SliceWright.class.getDeclaredMethods()) {
            int modifiers = method.getModifiers();
            Check.same(method.getName() + " is public or private",
                    Modifier.isPublic(modifiers) || Modifier.isPrivate(modifiers), true);
            Check.same(method.getName() + " takes seven at most", method.getParameterCount() <= 7, true);
        }
        fields(SliceWright.class);
    }

    private static void fields(Class<?> type) {
        int own = 0;
        for (Field field : type.getDeclaredFields()) {
            String name = type.getSimpleName() + "." + field.getName();
            Check.same(name + " is private", Modifier.isPrivate(field.getModifiers()), true);
            if (Modifier.isStatic(field.getModifiers())) {
                Check.same(name + " is final", Modifier.isFinal(field.getModifiers()), true);
            } else {
                own++;
            }
        }
        Check.same(type.getSimpleName() + " has twenty fields at most", own <= 20, true);
    }

    private static void classesInside() {
        Class<?>[] inside = SliceWright.class.getDeclaredClasses();
        Check.same("twelve classes at most", inside.length + 1 <= 12, true);
        for (Class<?> type : inside) {
            Check.same(type.getSimpleName() + " is static", Modifier.isStatic(type.getModifiers()), true);
            Check.same(type.getSimpleName() + " is public", Modifier.isPublic(type.getModifiers()), false);
            Check.same(type.getSimpleName() + " is protected", Modifier.isProtected(type.getModifiers()), false);
            fields(type);
        }
    }

    private static void source() throws IOException {
        List<String> lines = Files.readAllLines(Path.of("src/main/java/SliceWright.java"));
        int imports = 0;
        int methodStart = 0;
        for (int i = 0; i < lines.size(); i++) {
            String line = lines.get(i);
            imports += line.startsWith("import ") ? 1 : 0;
            Check.same("line " + (i + 1) + " is of plain signs", line.chars().allMatch(c -> c < 128), true);
            if (!line.strip().startsWith("/**") && !line.strip().startsWith("*")) {
                for (String ruledOut : RULED_OUT) {
                    Check.same("line " + (i + 1) + " has " + ruledOut, line.contains(ruledOut), false);
                }
            }
            if (line.isBlank()) {
                methodStart = i;
            }
            Check.same("line " + (i + 1) + " is in a short method", i - methodStart <= 60, true);
        }
        Check.same("imports", imports, 2);
    }
}
