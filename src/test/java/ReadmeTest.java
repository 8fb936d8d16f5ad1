import java.io.File;
import java.lang.reflect.Method;
import java.lang.reflect.Modifier;
import java.nio.file.Path;

/** README.md tells what is so: its example, the calls, and how the tests are run. */
final class ReadmeTest {
    private static final String TEXT = SourceText.of(Path.of("README.md"));

    private ReadmeTest() {
    }

    static void all() {
        Check.begin("README.md");
        example();
        calls();
        tests();
    }

    /** A line of the example, as it stands there. */
    private static void says(String line) {
        Check.yes("it says: " + line, TEXT.contains(line));
    }

    private static void example() {
        says("ScopeRow x = new ScopeRow();\nint parent = x.body();\nint child = x.body();\n");
        ScopeRow x = new ScopeRow();
        int parent = x.body();
        int child = x.body();
        says("x.line(parent, 7, 5, 3);      // 0 OPEN");
        Check.due("OPEN", x.line(parent, 7, 5, 3), 0);
        says("x.line(parent, 10, child, 0); // 1 SPAWN");
        Check.due("SPAWN", x.line(parent, 10, child, 0), 1);
        says("x.line(parent, 9, 0, 0);      // 2 SHUT");
        Check.due("SHUT", x.line(parent, 9, 0, 0), 2);
        says("x.line(child, 12, 9, 0);      // 0 SLEEP 9");
        Check.due("SLEEP", x.line(child, 12, 9, 0), 0);
        says("int task = x.start(parent);\n");
        int task = x.start(parent);
        says("x.run(10);                    // 2 turns: the parent waits for the scope, the child sleeps");
        Check.due("turns", x.run(10), 2);
        Check.due("the parent waits for a scope, the child sleeps", x.ofTask(task, 8) * 10 + x.ofTask(1, 8), 51);
        says("x.isClosedBy(0, 10);          // true");
        Check.yes("closed by 10 turns", x.isClosedBy(0, 10));
        Check.due("nothing is changed", x.many(9), 0);
        says("x.tick(5);                    // 1: the deadline cancels the scope, the child is ready");
        Check.due("ready", x.tick(5), 1);
        Check.due("cancelled, and the child is first", x.ofScope(0, 2) * 10 + x.ofTask(1, 6), 10);
        says("x.run(10);                    // 2 turns: the child is dropped, which closes the scope");
        Check.due("turns", x.run(10), 2);
        Check.due("dropped, closed", x.ofTask(1, 1) * 10 + x.ofScope(0, 1), 42);
        says("x.ofTask(task, 1);            // 2");
        Check.due("returned", x.ofTask(task, 1), 2);
        says("x.ofTask(task, 3);            // 1");
        Check.due("with 1", x.ofTask(task, 3), 1);
    }

    private static void calls() {
        for (Method method : ScopeRow.class.getDeclaredMethods()) {
            if (Modifier.isPublic(method.getModifiers())) {
                Check.yes("it tells of " + method.getName(), TEXT.contains("| `" + method.getName() + "("));
            }
        }
    }

    private static void tests() {
        Check.yes(".ci/run is there, and can be run", new File(".ci/run").canExecute());
        String run = SourceText.of(Path.of(".ci/run"));
        for (String options : new String[] {"javac -Xlint:all -Werror -encoding US-ASCII -d ", "javac -encoding UTF-8 -d "}) {
            Check.yes("both compile by: " + options, run.contains(options) && TEXT.contains(options));
        }
        File[] files = new File("src/test/java").listFiles();
        String all = SourceText.of(Path.of("src/test/java/AllTests.java"));
        int tests = 0;
        for (File file : files == null ? new File[0] : files) {
            String name = file.getName().replace(".java", "");
            if (name.endsWith("Test")) {
                tests++;
                Check.yes("it tells of " + name, TEXT.contains("`" + name + "`"));
                Check.yes("AllTests runs " + name, all.contains("        " + name + ".all();\n"));
            }
        }
        Check.yes("the tests were found", tests > 10);
    }
}
