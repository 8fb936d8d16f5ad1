import java.lang.reflect.Constructor;
import java.lang.reflect.Field;
import java.lang.reflect.Method;
import java.lang.reflect.Modifier;
import java.util.ArrayList;
import java.util.List;
import java.util.TreeSet;

/** The public face is the document's. */
final class FaceTest {
    private static final String BOUNDS = " throws IndexOutOfBoundsException";
    private static final String BOTH = BOUNDS + ", IllegalArgumentException";
    private static final String ARGUMENT = " throws IllegalArgumentException";
    private static final List<String> FACE = List.of(
        "int body() throws IllegalStateException",
        "int line(int, int, int, int)" + BOTH + ", IllegalStateException",
        "int room(int, int)" + BOTH + ", IllegalStateException",
        "int start(int)" + BOUNDS + ", IllegalStateException",
        "int run(int)" + ARGUMENT,
        "int tick(int)" + ARGUMENT,
        "boolean cancel(int)" + BOUNDS,
        "int ofTask(int, int)" + BOTH,
        "int local(int, int)" + BOUNDS,
        "int ofScope(int, int)" + BOTH,
        "int ofLock(int, int)" + BOTH,
        "int ofChannel(int, int)" + BOTH,
        "int many(int)" + ARGUMENT,
        "double meanLines()",
        "int stuck()",
        "int wouldHit(int)" + BOUNDS,
        "int overBy(int, int)" + ARGUMENT,
        "boolean isClosedBy(int, int)" + BOTH,
        "int thereBy(int, int)" + BOTH,
        "long digest()");
    /** What the interface says ahead of a call, and that call. */
    private static final String[][] HEADINGS = {
        {"// ---- bodies\n", "public int body("},
        {"// ---- what goes on\n", "public int start("},
        {"// ---- what one asks\n", "public int ofTask("},
        {"// ---- what would be (nothing is changed)\n", "public int wouldHit("},
    };

    private FaceTest() {
    }

    static void all() {
        Check.begin("public face");
        TreeSet<String> found = new TreeSet<>();
        List<String> publicNames = new ArrayList<>();
        List<String> otherNames = new ArrayList<>();
        for (Method method : ScopeRow.class.getDeclaredMethods()) {
            if (Modifier.isPublic(method.getModifiers())) {
                found.add(textOf(method));
                publicNames.add(method.getName());
            } else if (!method.isSynthetic()) {
                Check.yes(method + " is private", Modifier.isPrivate(method.getModifiers()));
                otherNames.add(method.getName());
            }
        }
        for (String due : FACE) {
            Check.yes(due, found.contains(due));
        }
        Check.due("public methods", found.size(), FACE.size());
        otherNames.retainAll(publicNames);
        Check.yes("no private method bears a public one's name: " + otherNames, otherNames.isEmpty());
        for (Field field : ScopeRow.class.getDeclaredFields()) {
            Check.yes(field + " is private", Modifier.isPrivate(field.getModifiers()));
            Check.yes(field + " is final", Modifier.isFinal(field.getModifiers()));
        }
        Constructor<?>[] constructors = ScopeRow.class.getDeclaredConstructors();
        Check.due("constructors", constructors.length, 1);
        Check.due("their parameters", constructors[0].getParameterCount(), 0);
        Check.yes("final", Modifier.isFinal(ScopeRow.class.getModifiers()));
        headings();
    }

    private static String textOf(Method method) {
        List<String> parameters = new ArrayList<>();
        for (Class<?> type : method.getParameterTypes()) {
            parameters.add(type.getSimpleName());
        }
        List<String> thrown = new ArrayList<>();
        for (Class<?> type : method.getExceptionTypes()) {
            thrown.add(type.getSimpleName());
        }
        return method.getReturnType().getSimpleName() + " " + method.getName()
            + "(" + String.join(", ", parameters) + ")"
            + (thrown.isEmpty() ? "" : " throws " + String.join(", ", thrown));
    }

    private static void headings() {
        Check.begin("Ahead of the calls the interface says");
        String text = SourceText.of(SourceText.PROGRAM);
        for (String[] heading : HEADINGS) {
            int place = text.indexOf(heading[0]);
            int call = text.indexOf(heading[1]);
            Check.yes(heading[0].trim() + " stands just ahead of its calls",
                place >= 0 && call > place && text.substring(place + heading[0].length(), call).isBlank());
        }
        int before = -1;
        for (String due : FACE) {
            int place = text.indexOf("public " + due.substring(0, due.indexOf('(') + 1));
            Check.yes(due + " stands in the document's order", place > before);
            before = place;
        }
    }
}
