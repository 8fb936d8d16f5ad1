import java.util.function.Supplier;

/** Section 1, sentence by sentence: what is empty, full, first, last, and one beyond. */
final class EdgesOfBodiesTest {
    /** The lowest and the highest a of each KIND; 0 and 0, where nothing is said of it. */
    private static final int[][] OF_A = {
        {-99, 99}, {0, 3}, {0, 3}, {0, 3}, {0, 0}, {0, 0}, {1, 7},
        {0, 20}, {0, 0}, {0, 0}, {0, 7}, {0, 0},
        {1, 9}, {0, 1}, {0, 1}, {0, 1}, {0, 1}, {0, 1}, {0, 0}
    };
    private static final int LOOP = 3;

    private EdgesOfBodiesTest() {
    }

    static void all() {
        eightBodies();
        twelveLines();
        aAndBOfEachKind();
        kinds();
        writtenAsLongAsNoTask();
        zeroAtFirst();
        heldTo();
        heldToOnItsWay();
        lowestAndHighestAdd();
        firstAndLastLocal();
        loopAboveZero();
        loopToItsBounds();
        skipOfZeroOrLess();
        skipToItsBounds();
        firstAndLastFail();
        openAndShieldToTheirBounds();
        firstAndLastBodyToSpawn();
        noLine();
        noLineBehindTwelve();
        noLineWithAScope();
    }

    private static void eightBodies() {
        Check.begin("At most 8 BODIES, numbered from 0");
        ScopeRow x = new ScopeRow();
        Check.due("none", x.many(0), 0);
        Check.index(x, "the first, where there is none", () -> x.start(0));
        for (int body = 0; body < 8; body++) {
            Check.due("body", x.body(), body);
            Check.due("bodies", x.many(0), body + 1);
            int beyond = body + 1;
            Check.index(x, "a body above the last one", () -> x.start(beyond));
        }
        Check.state(x, "a ninth", x::body);
        Check.state(x, "a ninth again", x::body);
        Check.due("line of the first", x.line(0, 5, 0, 0), 0);
        Check.due("line of the last", x.line(7, 5, 0, 0), 0);
        Check.due("a task of the last", x.start(7), 0);
        Check.due("its body", x.ofTask(0, 0), 7);
        Check.state(x, "a ninth, with a task", x::body);
    }

    private static ScopeRow withLines(int lines) {
        ScopeRow x = new ScopeRow();
        x.body();
        for (int i = 0; i < lines; i++) {
            x.line(0, 5, 0, 0);
        }
        return x;
    }

    private static void twelveLines() {
        Check.begin("each a row of at most 12 LINES, numbered from 0");
        ScopeRow x = Check.with(Check.lines());
        for (int line = 0; line < 12; line++) {
            Check.due("line", x.line(0, 0, line, 0), line);
        }
        x.start(0);
        x.run(1);
        Check.due("lines begun", x.many(12), 12);
        Check.due("what they added", x.ofTask(0, 3), 66);
        for (int kind = 0; kind < OF_A.length; kind++) {
            ScopeRow y = withLines(12);
            int k = kind;
            int a = OF_A[kind][0];
            if (goesForward(kind)) {
                Check.argument(y, "a 13th, whose b had to be above 12", () -> y.line(0, k, a, 12));
                Check.argument(y, "a 13th with a b of 13", () -> y.line(0, k, a, 13));
            } else {
                Check.state(y, "a 13th of kind " + kind, () -> y.line(0, k, a, 0));
                Check.argument(y, "a 13th of kind " + kind + ", b wrong", () -> y.line(0, k, a, 13));
                Check.argument(y, "a 13th of kind " + kind + ", a wrong", () -> y.line(0, k, -100, 0));
            }
            Check.due("what is written stays", Check.later(y), Check.later(withLines(12)));
        }
        ScopeRow z = withLines(12);
        Check.state(z, "a 13th that loops to itself", () -> z.line(0, LOOP, 3, 12));
    }

    private static boolean goesForward(int kind) {
        return kind == 4 || kind == 7 || kind == 8;
    }

    private static int lowestB(int kind, int own) {
        return goesForward(kind) ? own + 1 : 0;
    }

    private static int highestB(int kind, int own) {
        return goesForward(kind) ? 12 : kind == LOOP ? own : 0;
    }

    private static void aAndBOfEachKind() {
        Check.begin("each of a KIND, with an a and a b (0, where nothing is said of them)");
        for (int own : new int[] {0, 1, 6, 10, 11}) {
            Supplier<ScopeRow> make = () -> withLines(own);
            for (int kind = 0; kind < OF_A.length; kind++) {
                int k = kind;
                int lowA = OF_A[kind][0];
                int highA = OF_A[kind][1];
                int lowB = lowestB(kind, own);
                int highB = highestB(kind, own);
                String name = "at line " + own + ", kind " + kind;
                for (int b : new int[] {lowB, highB}) {
                    Check.within(make, name + ", a", lowA, highA, IllegalArgumentException.class,
                        (x, a) -> x.line(0, k, a, b));
                }
                for (int a : new int[] {lowA, highA}) {
                    Check.within(make, name + ", b", lowB, highB, IllegalArgumentException.class,
                        (x, b) -> x.line(0, k, a, b));
                }
            }
        }
    }

    private static void kinds() {
        Check.begin("kind is not 0 to 18");
        Check.within(() -> withLines(0), "kind", 0, 18, IllegalArgumentException.class, (x, kind) -> x.line(0, kind, 0, 0));
        Check.within(() -> withLines(11), "kind", 0, 18, IllegalArgumentException.class, (x, kind) -> x.line(0, kind, 0, 0));
    }

    private static void writtenAsLongAsNoTask() {
        Check.begin("A LINE of a BODY can be written as long as no TASK was made of it");
        ScopeRow x = Check.with(Check.lines(), Check.lines());
        x.start(0);
        Check.state(x, "a line of an empty body with a task", () -> x.line(0, 0, 1, 0));
        Check.due("a line of the other", x.line(1, 0, 1, 0), 0);
        for (int i = 1; i < 24; i++) {
            x.start(0);
        }
        Check.state(x, "a 25th task", () -> x.start(1));
        Check.due("no task was made by that", x.line(1, 0, 1, 0), 1);

        ScopeRow y = Check.with(Check.lines("OPEN 0 12", "SPAWN 1"), Check.lines(), Check.lines("OPEN 0 12", "SPAWN 1"));
        for (int i = 0; i < 24; i++) {
            y.start(0);
        }
        y.run(1);
        Check.due("the spawn failed", y.ofTask(0, 3), 2);
        Check.due("no task was made by that", y.line(1, 0, 1, 0), 0);

        ScopeRow z = Check.with(Check.lines("OPEN 0 12", "SPAWN 1"), Check.lines());
        z.start(0);
        Check.due("before its turn", z.line(1, 0, 1, 0), 0);
        z.run(1);
        Check.state(z, "a line of a body spawned, but not begun", () -> z.line(1, 0, 1, 0));
        z.run(9);
        Check.state(z, "a line of a body whose task is over", () -> z.line(1, 0, 1, 0));
    }

    private static void zeroAtFirst() {
        Check.begin("What there is, and each LOCAL, is 0 at first");
        ScopeRow x = Check.with(Check.lines("ADD 7", "PUT 0", "PUT 1", "PUT 2", "PUT 3", "OPEN 0 12", "SPAWN 1", "SLEEP 1"),
            Check.lines("SLEEP 1"));
        x.start(0);
        x.run(1);
        x.start(0);
        for (int task = 1; task <= 2; task++) {
            Check.due("what there is", x.ofTask(task, 3), 0);
            for (int local = 0; local < 4; local++) {
                Check.due("local", x.local(task, local), 0);
            }
        }
        Check.due("the first one's", x.local(0, 0) + x.local(0, 1) + x.local(0, 2) + x.local(0, 3), 28);
    }

    /** 20 rounds of five ADDS of 99, and one more of a first number: 9900 and that, all times the sign; then the last. */
    private static ScopeRow reached(int sign, int first, String last) {
        String add = "ADD " + 99 * sign;
        ScopeRow x = Check.with(Check.lines("ADD 19", "PUT 0", "GET 1", "ADD " + first * sign,
            add, add, add, add, add, "SLEEP 1", "LOOP 0 4", last));
        x.start(0);
        x.run(1);
        for (int i = 0; i < 20; i++) {
            x.tick(1);
            x.run(1);
        }
        return x;
    }

    private static int thereBehind(int sign, int first, String last) {
        ScopeRow x = reached(sign, first, last);
        Check.due("it is returned", x.ofTask(0, 1), 2);
        return x.ofTask(0, 3);
    }

    private static void heldTo() {
        Check.begin("what there is is held to -9999 to 9999");
        for (int sign : new int[] {1, -1}) {
            String away = "ADD " + sign;
            String back = "ADD " + -sign;
            Check.due("one within", thereBehind(sign, 98, "RETURN"), 9998 * sign);
            Check.due("the bound", thereBehind(sign, 99, "RETURN"), 9999 * sign);
            Check.due("one within, and 1", thereBehind(sign, 98, away), 9999 * sign);
            Check.due("the bound, and 1", thereBehind(sign, 99, away), 9999 * sign);
            Check.due("the bound, and 99", thereBehind(sign, 99, "ADD " + 99 * sign), 9999 * sign);
            Check.due("one within, and 2", thereBehind(sign, 98, "ADD " + 2 * sign), 9999 * sign);
            Check.due("the bound, and 1 back", thereBehind(sign, 99, back), 9998 * sign);
            Check.due("the bound, and 99 back", thereBehind(sign, 99, "ADD " + -99 * sign), 9900 * sign);
            ScopeRow x = reached(sign, 99, "PUT 3");
            Check.due("a local", x.local(0, 3), 9999 * sign);
            ScopeRow y = reached(sign, 99, "SEND 1");
            Check.due("a value", y.ofChannel(1, 2), 9999 * sign);
        }
    }

    /** What goes above a bound is cut there at once, not only in the end. */
    private static void heldToOnItsWay() {
        for (int sign : new int[] {1, -1}) {
            String add = "ADD " + 99 * sign;
            ScopeRow x = Check.with(Check.lines("ADD 40", "PUT 0", "GET 1", add, add, add, add, "SLEEP 1", "LOOP 0 3",
                "ADD " + -50 * sign, "ADD " + 20 * sign));
            x.start(0);
            x.run(1);
            for (int i = 0; i < 41; i++) {
                x.tick(1);
                x.run(1);
            }
            Check.due("cut, 50 back, 20 on", x.ofTask(0, 3), 9969 * sign);
        }
    }

    private static void lowestAndHighestAdd() {
        Check.begin("ADD: a (-99 to 99) is added to what there is");
        Check.due("the lowest", Check.alone("ADD -99"), 200 - 99);
        Check.due("the highest", Check.alone("ADD 99"), 299);
        Check.due("nothing", Check.alone("ADD 7", "ADD 0"), 207);
        Check.due("back to nothing", Check.alone("ADD 99", "ADD -99"), 200);
    }

    private static void firstAndLastLocal() {
        Check.begin("the LOCAL a (0 to 3)");
        Check.due("the first", Check.alone("ADD 5", "PUT 0", "ADD 1", "GET 0"), 205);
        Check.due("the last", Check.alone("ADD 5", "PUT 3", "ADD 1", "GET 3"), 205);
        Check.due("another than the first", Check.alone("ADD 5", "PUT 0", "GET 1"), 200);
        Check.due("another than the last", Check.alone("ADD 5", "PUT 3", "GET 2"), 200);
        Check.due("LOOP by the first", Check.alone("ADD 2", "PUT 0", "ADD 5", "LOOP 0 2"), 217);
        Check.due("LOOP by the last", Check.alone("ADD 2", "PUT 3", "ADD 5", "LOOP 3 2"), 217);
    }

    private static void loopAboveZero() {
        Check.begin("LOOP: if the LOCAL a is above 0, it is 1 less");
        Check.due("1", Check.alone("ADD 1", "PUT 0", "GET 1", "ADD 5", "LOOP 0 3"), 210);
        Check.due("1 is 0 then", Check.alone("ADD 1", "PUT 0", "LOOP 0 2", "GET 0"), 200);
        Check.due("0", Check.alone("PUT 0", "ADD 5", "LOOP 0 1"), 205);
        Check.due("0 stays 0", Check.alone("LOOP 0 0", "GET 0"), 200);
        Check.due("-1", Check.alone("ADD -1", "PUT 0", "GET 1", "ADD 5", "LOOP 0 3"), 205);
        Check.due("-1 stays -1", Check.alone("ADD -1", "PUT 0", "LOOP 0 2", "GET 0"), 199);
        ScopeRow x = Check.with(Check.lines("ADD 3", "PUT 3", "SLEEP 1", "LOOP 3 2", "FREE 0"));
        x.start(0);
        x.run(1);
        for (int left = 3; left > 0; left--) {
            Check.due("left of it", x.local(0, 3), left);
            x.tick(1);
            x.run(1);
        }
        Check.due("left of it", x.local(0, 3), 0);
        Check.due("it sleeps", x.ofTask(0, 8), 1);
    }

    private static void loopToItsBounds() {
        Check.begin("it goes on with the LINE b (0 to its own number)");
        ScopeRow x = Check.with(Check.lines("SKIP 9", "RETURN", "FAIL 1", "FAIL 1", "FAIL 1", "FAIL 1", "FAIL 1",
            "FAIL 1", "FAIL 1", "ADD 1", "PUT 1", "LOOP 1 0"));
        x.start(0);
        x.run(1);
        Check.due("returned by line 1", x.ofTask(0, 1) * 10 + x.ofTask(0, 3), 21);
        Check.due("lines 0, 9, 10, 11, 0, 1", x.many(12), 6);
        ScopeRow y = Check.with(Check.lines("ADD 4", "PUT 1", "GET 0", "GET 0", "GET 0", "GET 0", "GET 0", "GET 0",
            "GET 0", "GET 0", "GET 0", "LOOP 1 11"));
        y.start(0);
        y.run(1);
        Check.due("its own number, four times", y.many(12), 16);
        Check.due("left of it", y.local(0, 1), 0);
        Check.due("line 0 that goes on with itself", Check.alone("LOOP 0 0", "ADD 3"), 203);
    }

    private static void skipOfZeroOrLess() {
        Check.begin("SKIP: if there is 0 or less, it goes on with the LINE b");
        Check.due("0", Check.alone("SKIP 2", "FAIL 1", "ADD 5"), 205);
        Check.due("-1", Check.alone("ADD -1", "SKIP 3", "FAIL 1", "ADD 5"), 204);
        Check.due("1", Check.alone("ADD 1", "SKIP 3", "ADD 7", "ADD 5"), 213);
    }

    private static void skipToItsBounds() {
        Check.begin("(above its own number, up to 12)");
        Check.due("the next one", Check.alone("SKIP 1", "ADD 5"), 205);
        Check.due("12, where there is none", Check.alone("SKIP 12", "ADD 5"), 200);
        Check.due("11, the last of twelve", Check.alone("SKIP 11", "FAIL 1", "FAIL 1", "FAIL 1", "FAIL 1", "FAIL 1",
            "FAIL 1", "FAIL 1", "FAIL 1", "FAIL 1", "FAIL 1", "ADD 5"), 205);
        Check.due("12, behind twelve", Check.alone("SKIP 12", "FAIL 1", "FAIL 1", "FAIL 1", "FAIL 1", "FAIL 1",
            "FAIL 1", "FAIL 1", "FAIL 1", "FAIL 1", "FAIL 1", "ADD 5"), 200);
        Check.due("12 from 11", Check.alone("RETURN", "RETURN", "RETURN", "RETURN", "RETURN", "RETURN",
            "RETURN", "RETURN", "RETURN", "RETURN", "RETURN", "SKIP 12"), 200);
    }

    private static void firstAndLastFail() {
        Check.begin("FAIL: a (1 to 7)");
        for (int k = 1; k <= 7; k++) {
            Check.due("failed", Check.alone("ADD 50", "FAIL " + k, "ADD 1"), 300 + k);
        }
    }

    private static void openAndShieldToTheirBounds() {
        Check.begin("OPEN: b is above its own number, up to 12. SHIELD: b likewise");
        for (String kind : new String[] {"OPEN 0 ", "SHIELD "}) {
            // On with line 1 behind the SHUT that is line 1: that fails, as there is no scope then.
            Check.due(kind + "the next one", Check.alone(kind + "1", "SHUT", "ADD 5"), 301);
            Check.due(kind + "12", Check.alone("ADD 5", kind + "12", "SHUT", "FAIL 2"), 200);
            Check.due(kind + "12 from 11", Check.alone("ADD 5", "SKIP 12", "SKIP 12", "SKIP 12", "SKIP 12", "SKIP 12",
                "SKIP 12", "SKIP 12", "SKIP 12", "SKIP 12", "SKIP 12", kind + "12"), 205);
            Check.due(kind + "11, the last of twelve", Check.alone(kind + "11", "SHUT", "FAIL 1", "FAIL 1", "FAIL 1",
                "FAIL 1", "FAIL 1", "FAIL 1", "FAIL 1", "FAIL 1", "FAIL 1", "ADD 5"), 205);
        }
    }

    private static void firstAndLastBodyToSpawn() {
        Check.begin("SPAWN: the BODY a (0 to 7, there or not)");
        for (int bodies = 1; bodies <= 8; bodies++) {
            for (int a = 0; a <= 7; a++) {
                ScopeRow x = new ScopeRow();
                for (int i = 0; i < bodies; i++) {
                    x.body();
                }
                x.line(bodies - 1, 7, 0, 12);
                x.line(bodies - 1, 10, a, 0);
                x.line(bodies - 1, 12, 1, 0);
                x.start(bodies - 1);
                x.run(1);
                Check.due("tasks", x.many(1), a < bodies ? 2 : 1);
                Check.due("there is", x.ofTask(0, 3), a < bodies ? 1 : 2);
                Check.due("failed", x.many(5), a < bodies ? 0 : 1);
                Check.due("the body", x.ofTask(x.many(1) - 1, 0), a < bodies ? a : bodies - 1);
            }
        }
    }

    private static void noLine() {
        Check.begin("Where there is no LINE, that is a RETURN (it is none that is begun)");
        ScopeRow x = Check.with(Check.lines(), Check.lines("ADD 5"), Check.lines("SKIP 1"), Check.lines("SKIP 7"),
            Check.lines("OPEN 0 9", "SHUT"));
        int[] begun = {0, 1, 2, 3, 5};
        int[] there = {0, 5, 0, 0, 0};
        for (int body = 0; body < 5; body++) {
            x.start(body);
            Check.due("one turn", x.run(50), 1);
            Check.due("returned", x.ofTask(body, 1), 2);
            Check.due("with", x.ofTask(body, 3), there[body]);
            Check.due("lines begun till now", x.many(12), begun[body]);
        }
        Check.due("turns", x.many(11), 5);
    }

    private static void noLineBehindTwelve() {
        ScopeRow x = Check.with(Check.lines("ADD 1", "ADD 1", "ADD 1", "ADD 1", "ADD 1", "ADD 1",
            "ADD 1", "ADD 1", "ADD 1", "ADD 1", "ADD 1", "SLEEP 1"));
        x.start(0);
        x.run(1);
        Check.due("it sleeps at the last line", x.ofTask(0, 2), 11);
        x.tick(1);
        x.run(1);
        Check.due("returned behind it", x.ofTask(0, 1) * 100 + x.ofTask(0, 3), 211);
        Check.due("lines begun", x.many(12), 12);
    }

    private static void noLineWithAScope() {
        Check.begin("(... also if there is none of that number)");
        ScopeRow x = Check.with(Check.lines("OPEN 0 12", "SPAWN 1"), Check.lines("TAKE 0"),
            Check.lines("OPEN 0 12", "SPAWN 1", "ADD 1", "ADD 1", "ADD 1", "ADD 1",
                "ADD 1", "ADD 1", "ADD 1", "ADD 1", "ADD 1", "ADD 1"));
        Check.starts(x, 0, 2);
        x.run(9);
        Check.due("leaving by line 2 of two", x.ofTask(0, 2), 2);
        Check.due("leaving by line 12 of twelve", x.ofTask(1, 2), 12);
        Check.due("they wait for scopes", x.ofTask(0, 8) * 10 + x.ofTask(1, 8), 55);
        x.cancel(0);
        x.cancel(1);
        x.run(2);
        Check.due("ready, at that line", x.ofTask(0, 2) * 100 + x.ofTask(1, 2), 212);
        x.run(2);
        Check.due("none, as they are over", x.ofTask(0, 2) + x.ofTask(1, 2), -2);
        Check.due("lines begun", x.many(12), 16);
    }
}
