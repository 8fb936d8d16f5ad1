/** Promises 7 and 8, section 3: deadlines, cancelling, shields. */
final class CancelTest {
    private CancelTest() {
    }

    static void all() {
        tick();
        deadlineAheadOfSleep();
        deadlineOfClosedScope();
        cancel();
        insteadOfEachWait();
        aheadOfFailures();
        shieldKeepsOff();
        cancelledShield();
        hitThroughOthers();
        leavingGoesOnWaiting();
        readyByNumbers();
        sleepIsOverYetHit();
        newTaskGoesOnTillAWait();
        closedScopeIsNone();
        doneIfCancelledItself();
    }

    private static void tick() {
        Check.begin("promise 7");
        ScopeRow x = Check.with(Check.lines("SLEEP 9"), Check.lines("SLEEP 1"), Check.lines("SLEEP 3"));
        Check.argument(x, "tick 0", () -> x.tick(0));
        Check.argument(x, "tick -1", () -> x.tick(-1));
        Check.argument(x, "tick 21", () -> x.tick(21));
        Check.starts(x, 0, 1, 2, 1);
        x.run(9);
        Check.due("tick", x.tick(1), 2);
        Check.due("now", x.many(10), 1);
        Check.due("by numbers", x.ofTask(1, 6) * 10 + x.ofTask(3, 6), 1);
        Check.due("tick", x.tick(1), 0);
        Check.due("tick", x.tick(1), 1);
        Check.due("tick", x.tick(20), 1);
        Check.due("now", x.many(10), 23);
        Check.due("ready", x.many(2), 4);
        Check.due("the last one", x.ofTask(0, 6), 3);
    }

    private static void deadlineAheadOfSleep() {
        Check.begin("promise 7, deadlines");
        ScopeRow x = Check.with(Check.lines("SLEEP 2"), Check.lines("OPEN 2 3", "SLEEP 9", "SHUT"),
            Check.lines("OPEN 2 3", "LOCK 0", "TAKE 0"));
        Check.starts(x, 0, 2, 1);
        x.run(9);
        Check.due("deadline", x.ofScope(0, 3), 2);
        Check.due("a tick ahead", x.tick(1), 0);
        Check.due("not cancelled yet", x.many(9), 0);
        Check.due("tick", x.tick(1), 3);
        Check.due("cancelled", x.many(9), 2);
        Check.due("scopes first", x.ofTask(1, 6) * 100 + x.ofTask(2, 6) * 10 + x.ofTask(0, 6), 12);
        x.run(9);
        Check.due("returned with 1", x.ofTask(1, 1) * 10 + x.ofTask(1, 3), 21);
    }

    private static void deadlineOfClosedScope() {
        ScopeRow x = Check.with(Check.lines("OPEN 1 2", "SHUT", "SLEEP 2"));
        x.start(0);
        x.run(1);
        x.tick(1);
        Check.due("not cancelled", x.ofScope(0, 2), 0);
        Check.due("its deadline", x.ofScope(0, 3), 1);
        Check.no("cancel of a closed one", x.cancel(0));
        Check.due("not cancelled", x.ofScope(0, 2), 0);
    }

    private static void cancel() {
        Check.begin("promise 8");
        ScopeRow x = Check.with(Check.lines("OPEN 0 2", "SLEEP 9", "ADD 5"));
        Check.index(x, "cancel of no scope", () -> x.cancel(0));
        x.start(0);
        x.run(1);
        Check.index(x, "cancel of scope -1", () -> x.cancel(-1));
        Check.index(x, "cancel of scope 1", () -> x.cancel(1));
        Check.yes("cancel", x.cancel(0));
        Check.no("cancel again", x.cancel(0));
        Check.due("ready", x.ofTask(0, 6), 0);
        Check.due("at the line", x.ofTask(0, 2), 1);
        Check.due("there is what there was", x.ofTask(0, 3), 0);
        x.run(1);
        Check.due("done, with 1", x.ofTask(0, 3), 6);
        Check.no("cancel of a closed one that is cancelled", x.cancel(0));
        Check.due("lines begun", x.many(12), 3);
    }

    private static void insteadOfEachWait() {
        Check.begin("promise 8, section 3");
        String[] waits = {"SLEEP 1", "LOCK 0", "SEND 0", "TAKE 0", "PICK"};
        for (String wait : waits) {
            ScopeRow x = Check.with(Check.lines("OPEN 0 4", "STOP", wait, "FAIL 6", "ADD 5"));
            x.start(0);
            Check.due("run", x.run(9), 1);
            Check.due("cancelled at " + wait, x.ofTask(0, 3), 6);
            Check.due("it was begun", x.many(12), 4);
            Check.due("nobody ever held it", x.ofLock(0, 3), 0);
            Check.due("nothing came in", x.ofChannel(0, 1), 0);
        }
        Check.due("FREE is none of these", Check.alone("LOCK 1", "OPEN 0 5", "STOP", "FREE 1", "FAIL 6"), 306);
        Check.due("nor END", Check.alone("OPEN 0 5", "STOP", "END 1", "FAIL 6"), 306);
    }

    private static void aheadOfFailures() {
        Check.due("LOCK held", Check.alone("LOCK 0", "OPEN 0 5", "STOP", "LOCK 0", "FAIL 6", "ADD 5"), 206);
        Check.due("SEND with END", Check.alone("END 0", "OPEN 0 5", "STOP", "SEND 0", "FAIL 6", "ADD 5"), 206);
        Check.due("TAKE with END", Check.alone("END 0", "OPEN 0 5", "STOP", "TAKE 0", "FAIL 6", "ADD 5"), 206);

        // A FAIL that is due at the turn gives way to CANCEL, too.
        ScopeRow x = Check.with(Check.lines("OPEN 0 2", "TAKE 0", "ADD 5"), Check.lines("END 0"));
        Check.starts(x, 0, 1);
        x.run(2);
        Check.due("ready by END", x.ofTask(0, 6), 0);
        x.cancel(0);
        x.run(1);
        Check.due("done with 1", x.ofTask(0, 1) * 10 + x.ofTask(0, 3), 26);

        // Nor does that FAIL come back behind the next wait.
        ScopeRow y = Check.with(Check.lines("OPEN 0 2", "TAKE 0", "SLEEP 1", "ADD 5"), Check.lines("END 0"));
        Check.starts(y, 0, 1);
        y.run(2);
        y.cancel(0);
        y.run(1);
        y.tick(1);
        y.run(1);
        Check.due("returned with 6", y.ofTask(0, 1) * 10 + y.ofTask(0, 3), 26);
    }

    private static void shieldKeepsOff() {
        ScopeRow x = Check.with(Check.lines("OPEN 0 6", "SHIELD 4", "SLEEP 2", "SHUT", "SLEEP 5", "FAIL 1", "ADD 9"));
        x.start(0);
        x.run(1);
        x.cancel(0);
        Check.due("not hit", x.ofTask(0, 7), 0);
        Check.due("sleeps", x.ofTask(0, 8), 1);
        x.tick(2);
        x.run(1);
        Check.due("hit at the next wait behind it", x.ofTask(0, 1) * 10 + x.ofTask(0, 3), 30);
    }

    private static void cancelledShield() {
        ScopeRow x = Check.with(Check.lines("OPEN 0 6", "SHIELD 4", "SLEEP 9", "FAIL 1", "ADD 5", "SHUT"));
        x.start(0);
        x.run(1);
        Check.yes("cancel", x.cancel(1));
        Check.due("hit", x.ofTask(0, 7), 1);
        x.run(1);
        Check.due("done by 1", x.ofTask(0, 3), 0);
        Check.due("outer was not cancelled", x.ofScope(0, 2), 0);
        Check.due("returned", x.ofTask(0, 1), 2);
    }

    /** From the SCOPE that a TASK is IN on outwards, by the STACK of its opener, and what that is IN. */
    private static void hitThroughOthers() {
        String[] first = {"OPEN 0 4", "OPEN 0 4", "SPAWN 1", "SHUT"};
        String[] second = {"OPEN 0 4", "OPEN 0 4", "SPAWN 2", "SLEEP 9"};
        String[] third = {"SLEEP 9"};
        for (int scope = 0; scope < 4; scope++) {
            ScopeRow x = Check.with(first, second, third);
            x.start(0);
            x.run(9);
            Check.due("scopes", x.many(7), 4);
            Check.due("would hit " + scope, x.wouldHit(scope), scope < 2 ? 3 : 2);
            x.cancel(scope);
            Check.due("hit by " + scope, x.ofTask(2, 7), 1);
            Check.due("both ready", x.many(2), 2);
        }
        ScopeRow y = Check.with(first, new String[] {"SHIELD 4", "OPEN 0 4", "SPAWN 2", "SLEEP 9"}, third);
        y.start(0);
        y.run(9);
        y.cancel(0);
        Check.due("kept off by the shield of its opener", y.ofTask(2, 7), 0);
        y.cancel(3);
        Check.due("hit inside of it", y.ofTask(2, 7), 1);

        // A SCOPE that was opened behind the SPAWN is none of the spawned one's.
        ScopeRow z = Check.with(Check.lines("OPEN 0 4", "SPAWN 1", "OPEN 0 4", "STOP", "SHUT"), third);
        z.start(0);
        z.run(9);
        Check.due("not hit", z.ofTask(1, 7), 0);
    }

    private static void leavingGoesOnWaiting() {
        ScopeRow x = Check.with(Check.lines("OPEN 0 3", "SPAWN 1", "SHUT", "ADD 5"), Check.lines("SHIELD 2", "SLEEP 3"));
        x.start(0);
        x.run(9);
        x.cancel(0);
        Check.due("it is hit", x.ofTask(0, 7), 1);
        Check.due("it waits", x.ofTask(0, 8), 5);
        Check.due("nobody is ready", x.many(2), 0);
        x.tick(3);
        x.run(9);
        Check.due("1, as it was cancelled", x.ofTask(0, 3), 6);
    }

    private static void readyByNumbers() {
        ScopeRow x = Check.with(Check.lines("OPEN 0 6", "SPAWN 1", "SPAWN 2", "SPAWN 3", "SHUT"),
            Check.lines("SLEEP 1", "TAKE 0"), Check.lines("TAKE 0"), Check.lines("SLEEP 9"));
        x.start(0);
        x.run(9);
        x.tick(1);
        x.run(1);
        x.cancel(0);
        Check.due("places", x.ofTask(1, 6) * 100 + x.ofTask(2, 6) * 10 + x.ofTask(3, 6), 12);
        Check.due("nobody waits for a value", x.ofChannel(0, 4), 0);
    }

    private static void sleepIsOverYetHit() {
        ScopeRow x = Check.with(Check.lines("OPEN 0 3", "SLEEP 1", "FAIL 1", "ADD 5"));
        x.start(0);
        x.run(1);
        x.tick(1);
        x.cancel(0);
        Check.due("ready once", x.many(2), 1);
        x.run(1);
        Check.due("cancelled all the same", x.ofTask(0, 3), 6);
    }

    private static void newTaskGoesOnTillAWait() {
        ScopeRow x = Check.with(Check.lines("OPEN 0 4", "STOP", "SPAWN 1", "SHUT"), Check.lines("ADD 5", "SLEEP 1", "ADD 1"));
        x.start(0);
        x.run(1);
        Check.due("hit", x.ofTask(1, 7), 1);
        Check.due("ready", x.ofTask(1, 1), 0);
        Check.due("next line", x.ofTask(1, 2), 0);
        x.run(1);
        Check.due("dropped with what there was", x.ofTask(1, 1) * 10 + x.ofTask(1, 3), 45);
        Check.due("not hit, as it is over", x.ofTask(1, 7), 0);
    }

    private static void closedScopeIsNone() {
        ScopeRow x = Check.with(Check.lines("OPEN 0 3", "SPAWN 1", "SHUT", "SLEEP 1", "ADD 5"), Check.lines("SLEEP 1"));
        x.start(0);
        x.run(9);
        x.cancel(0);
        x.run(1);
        Check.due("closed, on the stack", x.ofScope(0, 1) * 10 + x.ofTask(0, 5), 21);
        Check.due("hit no more", x.ofTask(0, 7), 0);
        x.run(1);
        Check.due("sleeps", x.ofTask(0, 8), 1);
    }

    private static void doneIfCancelledItself() {
        // CANCEL leaves the inner one, which is not cancelled, and is done at the outer one.
        ScopeRow x = Check.with(Check.lines("OPEN 0 5", "OPEN 0 3", "SLEEP 9", "FAIL 1", "FAIL 2", "ADD 5"));
        x.start(0);
        x.run(1);
        x.cancel(0);
        x.run(1);
        Check.due("on behind the outer one", x.ofTask(0, 1) * 10 + x.ofTask(0, 3), 26);
        Check.due("inner was not cancelled", x.ofScope(1, 2), 0);

        // In a SCOPE of another that is cancelled it is dropped.
        ScopeRow y = Check.with(Check.lines("OPEN 0 3", "SPAWN 1", "SHUT"), Check.lines("OPEN 0 3", "SLEEP 9", "SHUT"));
        y.start(0);
        y.run(9);
        y.cancel(0);
        y.run(9);
        Check.due("dropped", y.ofTask(1, 1), 4);
        Check.due("opener done with 1", y.ofTask(0, 1) * 10 + y.ofTask(0, 3), 21);
    }
}
