/** Promise 6, section 2: scopes, and how a task ends. */
final class ScopesTest {
    private ScopesTest() {
    }

    static void all() {
        Check.begin("promise 6, section 2");
        withoutAScope();
        shutAtOnce();
        shutWaits();
        returnLeavesAll();
        failLeavesAll();
        firstFailureCounts();
        failStaysThatFail();
        failOfOneInItBeatsReturnAndCancel();
        fortyScopes();
        spawnOfNone();
        lastLineOfNoNumber();
        overTellsItsScope();
    }

    private static void withoutAScope() {
        Check.due("SHUT", Check.alone("SHUT"), 301);
        Check.due("STOP", Check.alone("STOP"), 301);
        Check.due("SPAWN", Check.alone("SPAWN 0"), 301);
        Check.due("SPAWN of no body", Check.alone("SPAWN 7"), 301);
        Check.due("SHUT behind a scope", Check.alone("OPEN 0 2", "SHUT", "SHUT"), 301);
    }

    private static void shutAtOnce() {
        Check.due("not cancelled", Check.alone("ADD 7", "OPEN 0 4", "SHUT", "ADD 50", "ADD 2"), 202);
        Check.due("cancelled", Check.alone("ADD 7", "OPEN 0 5", "STOP", "SHUT", "ADD 50", "ADD 2"), 203);
        Check.due("shield", Check.alone("ADD 7", "SHIELD 4", "SHUT", "ADD 50", "ADD 2"), 202);
        ScopeRow x = Check.with(Check.lines("OPEN 3 4", "SHIELD 3", "SHUT", "SHUT", "SLEEP 1"));
        x.start(0);
        x.run(1);
        Check.due("scopes", x.many(7), 2);
        Check.due("closed", x.ofScope(0, 1) * 10 + x.ofScope(1, 1), 22);
        Check.due("its stack", x.ofTask(0, 5), 0);
        Check.due("one turn", x.many(11), 1);
        Check.due("deadline", x.ofScope(0, 3) * 10 + x.ofScope(1, 3), 29);
        Check.due("shield", x.ofScope(0, 4) * 10 + x.ofScope(1, 4), 1);
    }

    private static void shutWaits() {
        ScopeRow x = Check.with(Check.lines("OPEN 0 5", "SPAWN 1", "SPAWN 1", "SHUT", "ADD 50", "ADD 7"),
            Check.lines("SLEEP 2"));
        x.start(0);
        Check.due("run", x.run(9), 3);
        Check.due("waits for the scope", x.ofTask(0, 8), 5);
        Check.due("at SHUT", x.ofTask(0, 2), 3);
        Check.due("there is the number of the second", x.ofTask(0, 3), 2);
        Check.due("leaving", x.ofScope(0, 1), 1);
        Check.due("without a deadline", x.ofScope(0, 3), -1);
        x.tick(2);
        Check.due("run", x.run(1), 1);
        Check.due("one is over", x.ofScope(0, 6), 1);
        Check.due("still leaving", x.ofScope(0, 1), 1);
        x.run(1);
        Check.due("closed", x.ofScope(0, 1), 2);
        Check.due("ready", x.ofTask(0, 1), 0);
        Check.due("on the stack till its turn", x.ofTask(0, 5), 1);
        Check.due("line till then", x.ofTask(0, 2), 3);
        x.run(1);
        Check.due("0, and on with line 5", x.ofTask(0, 3), 7);
    }

    private static void returnLeavesAll() {
        ScopeRow x = Check.with(
            Check.lines("ADD 9", "OPEN 0 8", "SPAWN 1", "OPEN 0 8", "SPAWN 1", "ADD 3", "RETURN"),
            Check.lines("SLEEP 1"), Check.lines("SLEEP 2"));
        x.start(0);
        x.run(9);
        Check.due("outer is open", x.ofScope(0, 1), 0);
        Check.due("inner is leaving", x.ofScope(1, 1), 1);
        Check.due("not cancelled", x.ofScope(1, 2), 0);
        x.tick(1);
        x.run(9);
        Check.due("returned", x.ofTask(0, 1), 2);
        Check.due("with what there was", x.ofTask(0, 3), 5);
        Check.due("scopes not closed", x.many(8), 0);
    }

    private static void failLeavesAll() {
        ScopeRow x = Check.with(
            Check.lines("OPEN 0 8", "SPAWN 1", "OPEN 0 8", "SPAWN 1", "FAIL 5"),
            Check.lines("SLEEP 9"));
        x.start(0);
        x.run(1);
        Check.due("inner cancelled", x.ofScope(1, 2), 1);
        Check.due("outer not yet", x.ofScope(0, 2), 0);
        Check.due("waits at FAIL", x.ofTask(0, 2), 4);
        x.run(2);
        Check.due("first sleeps", x.ofTask(1, 8), 1);
        Check.due("second dropped", x.ofTask(2, 1), 4);
        x.run(1);
        Check.due("outer cancelled", x.ofScope(0, 2), 1);
        Check.due("its task is ready", x.ofTask(1, 1), 0);
        Check.due("still at FAIL", x.ofTask(0, 2), 4);
        x.run(9);
        Check.due("failed", x.ofTask(0, 1) * 10 + x.ofTask(0, 3), 35);
        Check.due("dropped", x.many(6), 2);
    }

    private static void firstFailureCounts() {
        ScopeRow x = Check.with(
            Check.lines("OPEN 0 5", "SPAWN 2", "SPAWN 1", "SPAWN 3", "SHUT"),
            Check.lines("FAIL 6"), Check.lines("SHIELD 3", "SLEEP 1", "FAIL 2"), Check.lines("SLEEP 5"));
        x.start(0);
        x.run(4);
        Check.due("failed", x.ofScope(0, 7), 1);
        Check.due("first", x.ofScope(0, 8), 2);
        Check.due("cancelled", x.ofScope(0, 2), 1);
        x.tick(1);
        x.run(1);
        Check.due("failed", x.ofScope(0, 7), 2);
        Check.due("first in time", x.ofScope(0, 8), 2);
        Check.due("over", x.ofScope(0, 6), 3);
        x.run(9);
        Check.due("failed with the first one's", x.ofTask(0, 1) * 10 + x.ofTask(0, 3), 36);
    }

    private static void failStaysThatFail() {
        ScopeRow x = Check.with(Check.lines("OPEN 0 3", "SPAWN 1", "FAIL 4"), Check.lines("FAIL 6"));
        x.start(0);
        x.run(9);
        Check.due("its own", x.ofTask(0, 3), 4);
        Check.due("first", x.ofScope(0, 8), 1);
    }

    private static void failOfOneInItBeatsReturnAndCancel() {
        ScopeRow x = Check.with(Check.lines("ADD 9", "OPEN 0 4", "SPAWN 1", "RETURN"), Check.lines("FAIL 6"));
        x.start(0);
        x.run(9);
        Check.due("for RETURN", x.ofTask(0, 1) * 10 + x.ofTask(0, 3), 36);

        ScopeRow y = Check.with(Check.lines("OPEN 0 6", "OPEN 0 6", "SPAWN 1", "SLEEP 9"),
            Check.lines("SHIELD 3", "SLEEP 1", "FAIL 6"));
        y.start(0);
        y.run(9);
        y.cancel(0);
        y.run(9);
        Check.due("leaving for CANCEL", y.ofScope(1, 1), 1);
        Check.due("not cancelled itself", y.ofScope(1, 2), 0);
        y.tick(1);
        y.run(9);
        Check.due("for CANCEL", y.ofTask(0, 1) * 10 + y.ofTask(0, 3), 36);
    }

    private static void fortyScopes() {
        ScopeRow x = Check.with(Check.lines("ADD 39", "PUT 0", "OPEN 0 12", "LOOP 0 2", "SLEEP 1"),
            Check.lines("OPEN 0 12"), Check.lines("SHIELD 12"));
        x.start(0);
        x.run(1);
        Check.due("scopes", x.many(7), 40);
        Check.due("its stack", x.ofTask(0, 5), 40);
        Check.starts(x, 1, 2);
        x.run(2);
        Check.due("OPEN fails with 3", x.ofTask(1, 1) * 10 + x.ofTask(1, 3), 33);
        Check.due("SHIELD fails with 3", x.ofTask(2, 1) * 10 + x.ofTask(2, 3), 33);
        x.cancel(0);
        Check.due("hit through all of them", x.ofTask(0, 7), 1);
        x.run(1);
        Check.due("all left", x.many(8), 0);
        Check.due("done by the outermost", x.ofTask(0, 1) * 10 + x.ofTask(0, 3), 21);
        x.start(1);
        x.run(1);
        Check.due("closed ones count, too", x.ofTask(3, 3), 3);
    }

    private static void spawnOfNone() {
        Check.due("no such body", Check.alone("OPEN 0 3", "SPAWN 1"), 302);
        ScopeRow x = Check.with(Check.lines("ADD 30", "PUT 0", "OPEN 0 12", "SPAWN 1", "LOOP 0 3"), Check.lines());
        x.start(0);
        x.run(1);
        Check.due("tasks", x.many(1), 24);
        Check.due("in it", x.ofScope(0, 5), 23);
        Check.due("leaving", x.ofScope(0, 1), 1);
        x.run(50);
        Check.due("fails with 2", x.ofTask(0, 1) * 10 + x.ofTask(0, 3), 32);
    }

    private static void lastLineOfNoNumber() {
        ScopeRow x = Check.with(Check.lines("OPEN 0 12", "SPAWN 1", "GET 0", "SKIP 9"), Check.lines("SLEEP 1"));
        x.start(0);
        x.run(9);
        Check.due("leaving by a line that is not there", x.ofTask(0, 2), 9);
        Check.due("lines begun", x.many(12), 5);
    }

    private static void overTellsItsScope() {
        // A lock goes on ahead of the CANCEL of the scope, so that who is given it is READY first.
        ScopeRow x = Check.with(
            Check.lines("OPEN 0 5", "SPAWN 1", "SPAWN 2", "SPAWN 3", "SHUT"),
            Check.lines("LOCK 0", "SLEEP 1", "FAIL 6"), Check.lines("SLEEP 9"), Check.lines("LOCK 0", "ADD 5"));
        x.start(0);
        x.run(4);
        x.tick(1);
        x.run(1);
        Check.due("handed on first", x.ofTask(3, 6), 0);
        Check.due("cancelled then", x.ofTask(2, 6), 1);
        Check.due("lock is held at once", x.ofLock(0, 0), 3);
        x.run(1);
        Check.due("given back", x.ofLock(0, 0), -1);
        Check.due("dropped", x.ofTask(3, 1), 4);
        Check.due("closed by the last one", x.ofScope(0, 1), 1);
        x.run(1);
        Check.due("closed by the last one", x.ofScope(0, 1), 2);
    }
}
