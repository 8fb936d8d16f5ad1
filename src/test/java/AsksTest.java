/** Promises 9 to 16: what one asks. */
final class AsksTest {
    private AsksTest() {
    }

    static void all() {
        ofTask();
        local();
        ofScope();
        ofLock();
        ofChannel();
        many();
        meanLines();
        stuck();
    }

    private static void answers(String of, int[] due, java.util.function.IntUnaryOperator got) {
        for (int what = 0; what < due.length; what++) {
            Check.due(of + ", " + what, got.applyAsInt(what), due[what]);
        }
    }

    private static void ofTask() {
        Check.begin("promise 9");
        ScopeRow x = Check.with(
            Check.lines("OPEN 0 5", "SPAWN 1", "SPAWN 2", "SPAWN 3", "SHUT"),
            Check.lines("ADD 6", "SLEEP 9"),
            Check.lines("ADD 3", "RETURN"),
            Check.lines("SHIELD 3", "LOCK 0", "TAKE 1"),
            Check.lines("ADD 4", "FAIL 2"));
        x.start(0);
        answers("a new one", new int[] {0, 0, 0, 0, -1, 0, 0, 0, 0}, what -> x.ofTask(0, what));
        x.run(1);
        x.start(4);
        answers("opener", new int[] {0, 1, 4, 3, -1, 1, -1, 0, 5}, what -> x.ofTask(0, what));
        answers("a new one in a scope", new int[] {3, 0, 0, 0, 0, 0, 2, 0, 0}, what -> x.ofTask(3, what));
        x.run(9);
        answers("sleeper", new int[] {1, 1, 1, 6, 0, 0, -1, 0, 1}, what -> x.ofTask(1, what));
        answers("returned", new int[] {2, 2, -1, 3, 0, 0, -1, 0, 0}, what -> x.ofTask(2, what));
        answers("taker", new int[] {3, 1, 2, 0, 0, 1, -1, 0, 4}, what -> x.ofTask(3, what));
        answers("failed", new int[] {4, 3, -1, 2, -1, 0, -1, 0, 0}, what -> x.ofTask(4, what));
        x.cancel(0);
        answers("sleeper, hit", new int[] {1, 0, 1, 6, 0, 0, 0, 1, 0}, what -> x.ofTask(1, what));
        answers("taker, shielded", new int[] {3, 1, 2, 0, 0, 1, -1, 0, 4}, what -> x.ofTask(3, what));
        x.run(9);
        answers("dropped", new int[] {1, 4, -1, 6, 0, 0, -1, 0, 0}, what -> x.ofTask(1, what));
        answers("opener, hit", new int[] {0, 1, 4, 3, -1, 1, -1, 1, 5}, what -> x.ofTask(0, what));

        Check.index(x, "task -1", () -> x.ofTask(-1, 9));
        Check.index(x, "task 5", () -> x.ofTask(5, 0));
        Check.argument(x, "what -1", () -> x.ofTask(4, -1));
        Check.argument(x, "what 9", () -> x.ofTask(0, 9));
    }

    private static void local() {
        Check.begin("promise 10");
        ScopeRow x = Check.with(Check.lines("ADD 6", "PUT 0", "ADD 1", "PUT 3", "ADD 1", "PUT 1"));
        x.start(0);
        Check.due("at first", x.local(0, 0) + x.local(0, 1) + x.local(0, 2) + x.local(0, 3), 0);
        x.run(1);
        int[] due = {6, 8, 0, 7};
        for (int i = 0; i < 4; i++) {
            Check.due("local " + i, x.local(0, i), due[i]);
        }
        x.start(0);
        Check.due("another task's", x.local(1, 3), 0);
        Check.index(x, "task -1", () -> x.local(-1, 0));
        Check.index(x, "task 2", () -> x.local(2, 0));
        Check.index(x, "local -1", () -> x.local(0, -1));
        Check.index(x, "local 4", () -> x.local(0, 4));
    }

    private static void ofScope() {
        Check.begin("promise 11");
        ScopeRow x = Check.with(Check.lines("SLEEP 1"),
            Check.lines("SLEEP 1", "OPEN 7 12", "SPAWN 2", "SPAWN 0", "SHIELD 12", "SLEEP 2", "SHUT"),
            Check.lines("FAIL 3"));
        Check.starts(x, 0, 1);
        x.run(9);
        Check.index(x, "no scope", () -> x.ofScope(0, 0));
        x.tick(1);
        x.run(2);
        answers("open", new int[] {1, 0, 0, 8, 0, 2, 0, 0, -1}, what -> x.ofScope(0, what));
        answers("shield", new int[] {1, 0, 0, -1, 1, 0, 0, 0, -1}, what -> x.ofScope(1, what));
        x.run(2);
        answers("with a failed one", new int[] {1, 0, 1, 8, 0, 2, 2, 1, 2}, what -> x.ofScope(0, what));
        x.tick(2);
        x.run(9);
        answers("closed", new int[] {1, 2, 1, 8, 0, 2, 2, 1, 2}, what -> x.ofScope(0, what));
        answers("shield, closed", new int[] {1, 2, 0, -1, 1, 0, 0, 0, -1}, what -> x.ofScope(1, what));
        Check.due("its opener failed by it", x.ofTask(1, 3), 3);
        Check.index(x, "scope -1", () -> x.ofScope(-1, 9));
        Check.index(x, "scope 2", () -> x.ofScope(2, 0));
        Check.argument(x, "what -1", () -> x.ofScope(0, -1));
        Check.argument(x, "what 9", () -> x.ofScope(1, 9));
    }

    private static void ofLock() {
        Check.begin("promise 12");
        ScopeRow x = Check.with(Check.lines("LOCK 1", "SLEEP 1"), Check.lines("LOCK 1"));
        Check.starts(x, 0, 1, 1);
        answers("free", new int[] {-1, 0, -1, 0}, what -> x.ofLock(1, what));
        x.run(9);
        answers("held", new int[] {0, 2, 1, 1}, what -> x.ofLock(1, what));
        answers("the other", new int[] {-1, 0, -1, 0}, what -> x.ofLock(0, what));
        x.tick(1);
        x.run(9);
        answers("held by all", new int[] {-1, 0, -1, 3}, what -> x.ofLock(1, what));
        Check.index(x, "lock -1", () -> x.ofLock(-1, 4));
        Check.index(x, "lock 2", () -> x.ofLock(2, 0));
        Check.argument(x, "what -1", () -> x.ofLock(0, -1));
        Check.argument(x, "what 4", () -> x.ofLock(1, 4));
    }

    private static void ofChannel() {
        Check.begin("promise 13");
        ScopeRow x = Check.with(Check.lines("ADD 5", "SEND 1", "ADD 1", "SEND 1"), Check.lines("TAKE 1", "TAKE 1", "PICK"),
            Check.lines("TAKE 0"), Check.lines("END 1"));
        x.room(0, 2);
        answers("at first", new int[] {2, 0, 0, 0, 0, 0, 0}, what -> x.ofChannel(0, what));
        x.start(0);
        x.run(9);
        answers("with values", new int[] {1, 1, 5, 1, 0, 0, 0}, what -> x.ofChannel(1, what));
        Check.starts(x, 1, 2, 3);
        x.run(9);
        answers("with takers", new int[] {2, 0, 0, 0, 2, 0, 0}, what -> x.ofChannel(0, what));
        answers("ended", new int[] {1, 0, 0, 0, 1, 1, 2}, what -> x.ofChannel(1, what));
        Check.index(x, "channel -1", () -> x.ofChannel(-1, 7));
        Check.index(x, "channel 2", () -> x.ofChannel(2, 0));
        Check.argument(x, "what -1", () -> x.ofChannel(0, -1));
        Check.argument(x, "what 7", () -> x.ofChannel(1, 7));
    }

    private static void many() {
        Check.begin("promise 14");
        ScopeRow x = Check.with(Check.lines("OPEN 0 4", "SPAWN 1", "STOP", "SHUT"), Check.lines("SLEEP 1"),
            Check.lines("FAIL 2"), Check.lines("ADD 1", "RETURN"), Check.lines("OPEN 0 2", "SLEEP 9"));
        Check.starts(x, 0, 2, 3, 3, 4, 4, 4);
        x.run(8);
        Check.starts(x, 3, 3);
        x.tick(3);
        answers("many", new int[] {5, 10, 3, 3, 2, 1, 1, 4, 3, 1, 3, 8, 16}, x::many);
        x.run(1);
        x.tick(2);
        answers("many", new int[] {5, 10, 2, 3, 3, 1, 1, 4, 3, 1, 5, 9, 16}, x::many);
        x.run(9);
        answers("many", new int[] {5, 10, 0, 3, 5, 1, 1, 4, 3, 1, 5, 11, 20}, x::many);
        Check.argument(x, "many -1", () -> x.many(-1));
        Check.argument(x, "many 13", () -> x.many(13));
    }

    private static void meanLines() {
        Check.begin("promise 15");
        ScopeRow x = Check.with(Check.lines("ADD 1", "ADD 1"), Check.lines());
        Check.due("without a task", x.meanLines(), 0.0);
        Check.starts(x, 0, 1, 1);
        Check.due("not begun", x.meanLines(), 0.0);
        x.run(9);
        Check.due("not cut", x.meanLines(), 2.0 / 3);
        x.start(0);
        x.run(1);
        Check.due("four by four", x.meanLines(), 1.0);
    }

    private static void stuck() {
        Check.begin("promise 16");
        Check.due("without a task", new ScopeRow().stuck(), 0);
        ScopeRow x = Check.with(Check.lines("TAKE 0"), Check.lines("SLEEP 2"), Check.lines("OPEN 3 2", "LOCK 0"),
            Check.lines("LOCK 0", "OPEN 4 4", "SPAWN 0", "SHUT"));
        x.start(0);
        Check.due("ready", x.stuck(), 0);
        x.run(9);
        Check.due("all that wait", x.stuck(), 1);
        x.start(1);
        Check.due("ready", x.stuck(), 0);
        x.run(9);
        Check.due("one sleeps", x.stuck(), 0);
        x.tick(2);
        Check.due("ready again", x.stuck(), 0);
        x.run(9);
        Check.due("all that wait", x.stuck(), 1);
        x.start(3);
        x.run(9);
        Check.due("a deadline above now", x.stuck(), 0);
        Check.due("deadline", x.ofScope(0, 3), 6);
        x.tick(4);
        x.run(9);
        Check.due("the scope is closed", x.ofScope(0, 1), 2);
        Check.due("all that wait", x.stuck(), 1);

        // A deadline that went by keeps nobody from being stuck.
        ScopeRow y = Check.with(Check.lines("OPEN 1 3", "SPAWN 1", "SHUT"), Check.lines("SHIELD 3", "TAKE 0"));
        y.start(0);
        y.run(9);
        Check.due("not yet", y.stuck(), 0);
        y.tick(1);
        Check.due("not closed, its deadline is now", y.stuck(), 2);
    }
}
