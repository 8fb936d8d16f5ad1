/** Promises 1 to 5: what is there before anything goes on. */
final class BodiesTest {
    private BodiesTest() {
    }

    static void all() {
        newObject();
        body();
        line();
        boundsOfLines();
        lineInFullBody();
        room();
        start();
    }

    private static void newObject() {
        Check.begin("promise 1");
        ScopeRow x = new ScopeRow();
        for (int what = 0; what <= 12; what++) {
            Check.due("many " + what, x.many(what), 0);
        }
        Check.due("run", x.run(50), 0);
        Check.due("tick", x.tick(1), 0);
        for (int n = 0; n < 2; n++) {
            Check.due("holder", x.ofLock(n, 0), -1);
            Check.due("waiting for the lock", x.ofLock(n, 1), 0);
            Check.due("first of these", x.ofLock(n, 2), -1);
            Check.due("held ever", x.ofLock(n, 3), 0);
            Check.due("room", x.ofChannel(n, 0), 1);
            for (int what = 1; what <= 6; what++) {
                Check.due("channel " + what, x.ofChannel(n, what), 0);
            }
        }
        new ScopeRow().body();
        Check.due("bodies of another object", x.many(0), 0);
    }

    private static void body() {
        Check.begin("promise 2");
        ScopeRow x = new ScopeRow();
        for (int i = 0; i < 8; i++) {
            Check.due("body", x.body(), i);
        }
        Check.state(x, "a ninth body", x::body);
        Check.due("bodies", x.many(0), 8);
    }

    private static void line() {
        Check.begin("promise 3");
        ScopeRow x = new ScopeRow();
        Check.index(x, "line of no body", () -> x.line(0, 0, 0, 0));
        x.body();
        x.body();
        Check.index(x, "line of body -1, kind wrong", () -> x.line(-1, 19, 0, 0));
        Check.index(x, "line of body 2", () -> x.line(2, 0, 0, 0));
        Check.due("line", x.line(0, 0, 7, 0), 0);
        Check.due("line", x.line(1, 5, 0, 0), 0);
        Check.due("line", x.line(0, 0, 8, 0), 1);
        x.start(0);
        Check.argument(x, "kind 19 of a body with a task", () -> x.line(0, 19, 0, 0));
        Check.state(x, "line of a body with a task", () -> x.line(0, 0, 1, 0));
        Check.due("line of another body", x.line(1, 5, 0, 0), 1);
        x.run(1);
        Check.due("what there is", x.ofTask(0, 3), 15);
        Check.state(x, "line of a body with a task that is over", () -> x.line(0, 0, 1, 0));

        ScopeRow y = Check.with(Check.lines("OPEN 0 3", "SPAWN 1", "SHUT"), Check.lines("ADD 1"));
        y.start(0);
        y.line(1, 0, 2, 0);
        y.run(1);
        Check.state(y, "line of a body of which a task was spawned", () -> y.line(1, 0, 1, 0));
    }

    /** Each KIND at line 2 with its lowest and highest a and b, and one beyond these. */
    private static void boundsOfLines() {
        Check.begin("promise 3, bounds");
        int[][] bounds = {
            {-99, 99, 0, 0}, {0, 3, 0, 0}, {0, 3, 0, 0}, {0, 3, 0, 2}, {0, 0, 3, 12}, {0, 0, 0, 0}, {1, 7, 0, 0},
            {0, 20, 3, 12}, {0, 0, 3, 12}, {0, 0, 0, 0}, {0, 7, 0, 0}, {0, 0, 0, 0},
            {1, 9, 0, 0}, {0, 1, 0, 0}, {0, 1, 0, 0}, {0, 1, 0, 0}, {0, 1, 0, 0}, {0, 1, 0, 0}, {0, 0, 0, 0}
        };
        for (int kind = 0; kind < bounds.length; kind++) {
            int k = kind;
            int[] of = bounds[kind];
            for (int[] ab : new int[][] {{of[0], of[2]}, {of[0], of[3]}, {of[1], of[2]}, {of[1], of[3]}}) {
                Check.due("line of kind " + kind, atTwo().line(0, kind, ab[0], ab[1]), 2);
            }
            int[][] wrong = {
                {of[0] - 1, of[2]}, {of[1] + 1, of[3]}, {of[0], of[2] - 1}, {of[1], of[3] + 1},
                {Integer.MIN_VALUE, of[2]}, {Integer.MAX_VALUE, of[2]},
                {of[0], Integer.MIN_VALUE}, {of[0], Integer.MAX_VALUE}
            };
            for (int[] ab : wrong) {
                ScopeRow x = atTwo();
                Check.argument(x, "line of kind " + kind + " with " + ab[0] + " and " + ab[1],
                    () -> x.line(0, k, ab[0], ab[1]));
            }
        }
        for (int kind : new int[] {-1, 19, Integer.MIN_VALUE, Integer.MAX_VALUE}) {
            ScopeRow x = atTwo();
            Check.argument(x, "kind " + kind, () -> x.line(0, kind, 0, 0));
        }
    }

    private static ScopeRow atTwo() {
        return Check.with(Check.lines("RETURN", "RETURN"));
    }

    private static void lineInFullBody() {
        Check.begin("promise 3, twelve lines");
        ScopeRow x = new ScopeRow();
        x.body();
        for (int i = 0; i < 11; i++) {
            Check.due("line", x.line(0, 0, 1, 0), i);
        }
        Check.due("the last line", x.line(0, 4, 0, 12), 11);
        Check.state(x, "a 13th line", () -> x.line(0, 0, 1, 0));
        Check.state(x, "a 13th line that loops to itself", () -> x.line(0, 3, 0, 12));
        Check.argument(x, "a 13th line, kind wrong", () -> x.line(0, 19, 1, 0));
        Check.argument(x, "a 13th line that has nothing above it", () -> x.line(0, 4, 0, 12));
        x.start(0);
        Check.due("turns", x.run(2), 1);
        Check.due("lines begun", x.many(12), 12);
        Check.due("what there is", x.ofTask(0, 3), 11);
    }

    private static void room() {
        Check.begin("promise 4");
        ScopeRow x = Check.with(Check.lines("FAIL 1"));
        Check.due("room", x.room(0, 3), 1);
        Check.due("room", x.room(0, 0), 3);
        Check.due("room", x.room(0, 2), 0);
        Check.due("room of the other", x.room(1, 1), 1);
        Check.due("room", x.ofChannel(0, 0), 2);
        Check.index(x, "room of channel -1", () -> x.room(-1, 4));
        Check.index(x, "room of channel 2", () -> x.room(2, 0));
        Check.argument(x, "room -1", () -> x.room(0, -1));
        Check.argument(x, "room 4", () -> x.room(1, 4));
        x.start(0);
        Check.index(x, "room of channel 2 with a task", () -> x.room(2, 0));
        Check.argument(x, "room 4 with a task", () -> x.room(1, 4));
        Check.state(x, "room with a task", () -> x.room(1, 1));
        x.run(1);
        Check.state(x, "room with a task that is over", () -> x.room(0, 3));
    }

    private static void start() {
        Check.begin("promise 5");
        ScopeRow x = new ScopeRow();
        Check.index(x, "start of no body", () -> x.start(0));
        x.body();
        x.body();
        Check.index(x, "start of body -1", () -> x.start(-1));
        Check.index(x, "start of body 2", () -> x.start(2));
        for (int i = 0; i < 24; i++) {
            Check.due("start", x.start(i % 2), i);
        }
        Check.state(x, "a 25th task", () -> x.start(0));
        Check.index(x, "a 25th task of no body", () -> x.start(2));
        Check.due("tasks", x.many(1), 24);
        Check.due("its body", x.ofTask(23, 0), 1);
        Check.due("its scope", x.ofTask(23, 4), -1);
        Check.due("its place", x.ofTask(23, 6), 23);
        Check.due("turns", x.run(50), 24);
        Check.state(x, "a 25th task, all being over", () -> x.start(0));
    }
}
