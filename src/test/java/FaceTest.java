import java.io.IOException;
import java.lang.reflect.Constructor;
import java.lang.reflect.Field;
import java.lang.reflect.Method;
import java.lang.reflect.Modifier;
import java.nio.file.Files;
import java.nio.file.Path;
import java.util.ArrayList;
import java.util.List;
import java.util.TreeSet;

/** The public face is the document's, and the program's text keeps to what LANGUAGE.md lets it use. */
final class FaceTest {
    private static final String BOUNDS = " throws IndexOutOfBoundsException";
    private static final String BOTH = BOUNDS + ", IllegalArgumentException";
    private static final String ARGUMENT = " throws IllegalArgumentException";
    private static final List<String> FACE = List.of(
        "int body() throws IllegalStateException",
        "int line(int, int, int, int)" + BOTH + ", IllegalStateException",
        "int room(int, int)" + BOTH + ", IllegalStateException",
        "int start(int)" + BOUNDS + ", IllegalStateException",
        "int run(int)" + ARGUMENT,
        "int tick(int)" + ARGUMENT,
        "boolean cancel(int)" + BOUNDS,
        "int ofTask(int, int)" + BOTH,
        "int local(int, int)" + BOUNDS,
        "int ofScope(int, int)" + BOTH,
        "int ofLock(int, int)" + BOTH,
        "int ofChannel(int, int)" + BOTH,
        "int many(int)" + ARGUMENT,
        "double meanLines()",
        "int stuck()",
        "int wouldHit(int)" + BOUNDS,
        "int overBy(int, int)" + ARGUMENT,
        "boolean isClosedBy(int, int)" + BOTH,
        "int thereBy(int, int)" + BOTH,
        "long digest()");
    /** Each with what it would be a sign of. */
    private static final List<String> FORBIDDEN = List.of(
        "import ", "package ", "->", "::", "catch", "finally", "synchronized", "assert", "instanceof",
        "Exact(", "hashCode", "equals(", "System.out", "Random", "Thread", "nanoTime", "currentTimeMillis");

    private FaceTest() {
    }

    static void all() {
        Check.begin("public face");
        TreeSet<String> found = new TreeSet<>();
        List<String> publicNames = new ArrayList<>();
        List<String> otherNames = new ArrayList<>();
        for (Method method : ScopeRow.class.getDeclaredMethods()) {
            if (Modifier.isPublic(method.getModifiers())) {
                found.add(textOf(method));
                publicNames.add(method.getName());
            } else if (!method.isSynthetic()) {
                Check.yes(method + " is private", Modifier.isPrivate(method.getModifiers()));
                otherNames.add(method.getName());
            }
        }
        for (String due : FACE) {
            Check.yes(due, found.contains(due));
        }
        Check.due("public methods", found.size(), FACE.size());
        otherNames.retainAll(publicNames);
        Check.yes("no private method bears a public one's name: " + otherNames, otherNames.isEmpty());
        for (Field field : ScopeRow.class.getDeclaredFields()) {
            Check.yes(field + " is private", Modifier.isPrivate(field.getModifiers()));
            Check.yes(field + " is final", Modifier.isFinal(field.getModifiers()));
        }
        Constructor<?>[] constructors = ScopeRow.class.getDeclaredConstructors();
        Check.due("constructors", constructors.length, 1);
        Check.due("their parameters", constructors[0].getParameterCount(), 0);
        Check.yes("final", Modifier.isFinal(ScopeRow.class.getModifiers()));
        text();
    }

    private static String textOf(Method method) {
        List<String> parameters = new ArrayList<>();
        for (Class<?> type : method.getParameterTypes()) {
            parameters.add(type.getSimpleName());
        }
        List<String> thrown = new ArrayList<>();
        for (Class<?> type : method.getExceptionTypes()) {
            thrown.add(type.getSimpleName());
        }
        return method.getReturnType().getSimpleName() + " " + method.getName()
            + "(" + String.join(", ", parameters) + ")"
            + (thrown.isEmpty() ? "" : " throws " + String.join(", ", thrown));
    }

    private static void text() {
        Check.begin("LANGUAGE.md");
        String text;
        try {
            text = Files.readString(Path.of("src/main/java/ScopeRow.java"));
        } catch (IOException e) {
            Check.yes("the program's text can be read", false);
            return;
        }
        for (String sign : FORBIDDEN) {
            Check.no("'" + sign + "' in the text", text.contains(sign));
        }
        Check.yes("signs of 1 to 127", text.chars().allMatch(sign -> sign > 0 && sign < 128));
    }
}
