/** Sentences of the document that come together in one case, sections 2 to 4. */
final class ReadAgainTest {
    private ReadAgainTest() {
    }

    static void all() {
        failStaysAtTheNextScope();
        failureMeetsReturnFurtherOut();
        returnThroughCancelled();
        droppedIsNotFailed();
        hitAsItLeavesForFail();
        cancelAheadOfEnd();
        lockGivenBackAndHeldAgain();
        valueGivenBackAndTakenAgain();
        givenAheadOfEnd();
        takenAheadOfEnd();
        pickGivenAheadOfBothEnds();
        ticksTogether();
        cancelledOnceByTwoDeadlines();
        failureCancelsByNumbers();
        sentGoesOnBehindCancel();
    }

    private static int isAndHas(ScopeRow x, int task) {
        return x.ofTask(task, 1) * 10 + x.ofTask(task, 3);
    }

    private static void failStaysAtTheNextScope() {
        Check.begin("FAIL k, on with what is left of the STACK (but if that is a FAIL, it stays that FAIL)");
        // One in the inner SCOPE fails with 2; behind it one in the outer SCOPE fails with 6.
        ScopeRow x = Check.with(Check.lines("OPEN 0 12", "SPAWN 1", "OPEN 0 12", "SPAWN 2", "SHUT", "FAIL 1"),
            Check.lines("SHIELD 3", "SLEEP 1", "FAIL 6"), Check.lines("FAIL 2"));
        x.start(0);
        x.run(9);
        Check.due("both cancelled, one closed", x.ofScope(0, 2) * 100 + x.ofScope(1, 2) * 10 + x.many(8), 112);
        Check.due("on the stack", x.ofTask(0, 5), 1);
        Check.due("the outer one is leaving", x.ofScope(0, 1), 1);
        Check.due("by the SHUT", x.ofTask(0, 2) * 10 + x.ofTask(0, 8), 45);
        x.tick(1);
        x.run(9);
        Check.due("the one of the outer scope failed", isAndHas(x, 1), 36);
        Check.due("it is the first there", x.ofScope(0, 8), 1);
        Check.due("it stays 2", isAndHas(x, 0), 32);
    }

    private static void failureMeetsReturnFurtherOut() {
        Check.begin("If a TASK that is IN it has FAILED: FAIL k, whatever it was LEAVING for");
        // The inner SCOPE is left by RETURN at once, and at the outer one that meets the failure.
        ScopeRow x = Check.with(Check.lines("ADD 9", "OPEN 0 12", "SPAWN 1", "SLEEP 1", "FAIL 1"),
            Check.lines("FAIL 5"),
            Check.lines("ADD 9", "SHIELD 12", "SPAWN 1", "OPEN 0 12", "SHIELD 12", "RETURN"));
        x.start(2);
        Check.due("turns", x.run(9), 3);
        Check.due("inner ones are closed, not cancelled", x.ofScope(1, 1) * 100 + x.ofScope(2, 1) * 10 + x.many(9), 221);
        Check.due("failed with 5", isAndHas(x, 0), 35);

        // DONE meets it, too: there is neither 0 nor 1, and no LINE b that it goes on with.
        ScopeRow y = Check.with(Check.lines("OPEN 0 3", "SPAWN 1", "SHUT", "FREE 0"), Check.lines("FAIL 5"));
        y.start(0);
        y.run(9);
        Check.due("failed with 5", isAndHas(y, 0), 35);
        Check.due("lines begun", y.many(12), 4);
    }

    private static void returnThroughCancelled() {
        Check.begin("RETURN, FAIL: that, on with what is left of the STACK (CANCELLED or not)");
        for (String kind : new String[] {"OPEN 0 5", "SHIELD 5"}) {
            Check.due("RETURN", Check.alone(kind, "STOP", "ADD 7", "RETURN", "FAIL 1", "FAIL 2"), 207);
            Check.due("RETURN of two", Check.alone(kind, kind, "STOP", "ADD 7", "RETURN", "FAIL 2"), 207);
            Check.due("where there is no line", Check.alone("OPEN 0 12", kind, "STOP", "ADD 7"), 207);
            Check.due("FAIL", Check.alone(kind, "STOP", "ADD 7", "FAIL 3", "FAIL 1", "FAIL 2"), 303);
        }
    }

    private static void droppedIsNotFailed() {
        Check.begin("as one is OVER: if it is IN a SCOPE and FAILED, that is CANCELLED");
        // The outer SCOPE is CANCELLED: who is IN the inner one is DROPPED, and that SCOPE is DONE with 0.
        ScopeRow x = Check.with(Check.lines("OPEN 0 7", "OPEN 0 5", "SPAWN 1", "SHUT", "FAIL 1", "PUT 1", "TAKE 0", "ADD 20"),
            Check.lines("SLEEP 9"));
        x.start(0);
        x.run(9);
        x.cancel(0);
        x.run(1);
        Check.due("dropped", x.ofTask(1, 1), 4);
        Check.due("the inner one is closed, not cancelled", x.ofScope(1, 1) * 10 + x.ofScope(1, 2), 20);
        Check.due("none failed", x.ofScope(1, 7) * 10 + x.ofScope(1, 8), -1);
        x.run(1);
        Check.due("there was 0 behind the inner one", x.local(0, 1), 0);
        Check.due("there is 1 behind the outer one", isAndHas(x, 0), 20 + 21);
    }

    private static void hitAsItLeavesForFail() {
        Check.begin("FAIL k: the innermost one is CANCELLED; one that WAITS for a SCOPE that is LEAVING goes on waiting");
        ScopeRow x = Check.with(Check.lines("OPEN 0 12", "SPAWN 1", "FAIL 4"), Check.lines("SHIELD 12", "SLEEP 3"));
        x.start(0);
        x.run(2);
        Check.due("cancelled by its FAIL, before one in it has begun", x.ofTask(1, 7) * 10 + x.ofTask(1, 8), 1);
        Check.due("it is hit itself", x.ofTask(0, 7), 1);
        Check.due("it waits", x.ofTask(0, 1) * 10 + x.ofTask(0, 8), 15);
        Check.due("what there is till it is over", x.ofTask(0, 3), 1);
        x.tick(3);
        x.run(9);
        Check.due("failed", isAndHas(x, 0), 34);
    }

    private static void cancelAheadOfEnd() {
        Check.begin("whose turn begins behind one of these: CANCEL, instead (of the FAIL that an END left, too)");
        String[] waits = {"SEND 0", "TAKE 1", "PICK"};
        for (String wait : waits) {
            ScopeRow x = Check.with(Check.lines("OPEN 0 2", wait, "ADD 5"), Check.lines("END 0", "END 1"));
            x.room(0, 0);
            Check.starts(x, 0, 1);
            x.run(2);
            Check.due("ready by an END, no more hit than before", x.ofTask(0, 6) * 10 + x.ofTask(0, 7), 0);
            Check.due("who would be hit", x.wouldHit(0), 1);
            x.cancel(0);
            Check.due("hit, still at its place", x.ofTask(0, 6) * 10 + x.ofTask(0, 7), 1);
            x.run(1);
            Check.due("done with 1 behind " + wait, isAndHas(x, 0), 26);
            Check.due("nothing was given back", x.ofChannel(0, 1) + x.ofChannel(1, 1) + x.ofChannel(1, 6), 0);
        }
    }

    private static void lockGivenBackAndHeldAgain() {
        Check.begin("it gives back by that, first of all: a LOCK");
        ScopeRow x = Check.with(Check.lines("LOCK 0", "SLEEP 1", "FREE 0", "TAKE 1"), Check.lines("OPEN 0 2", "LOCK 0", "LOCK 0", "TAKE 1"));
        Check.starts(x, 0, 1);
        x.run(9);
        x.tick(1);
        x.run(1);
        x.cancel(0);
        x.run(1);
        Check.due("given back, and held again behind the scope, without FAIL 4", x.ofLock(0, 0) * 10 + x.ofLock(0, 3), 13);
        Check.due("it waits at line 3", x.ofTask(1, 2) * 10 + x.ofTask(1, 8), 34);

        // Another one that WAITS is given it first: then it WAITS anew, behind that.
        ScopeRow y = Check.with(Check.lines("LOCK 0", "SLEEP 1", "FREE 0", "TAKE 1"), Check.lines("OPEN 0 2", "LOCK 0", "LOCK 0", "TAKE 1"),
            Check.lines("LOCK 0", "TAKE 1"));
        Check.starts(y, 0, 1, 2);
        y.run(9);
        y.tick(1);
        y.run(1);
        y.cancel(0);
        y.run(1);
        Check.due("held by the other one", y.ofLock(0, 0) * 10 + y.ofLock(0, 3), 23);
        Check.due("one waits, it does", y.ofLock(0, 1) * 10 + y.ofLock(0, 2), 11);
    }

    private static void valueGivenBackAndTakenAgain() {
        Check.begin("it gives back by that, first of all: a VALUE");
        for (String wait : new String[] {"TAKE 1", "PICK"}) {
            ScopeRow x = Check.with(Check.lines("OPEN 0 2", wait, "PICK", "ADD 50"), Check.lines("ADD 7", "SEND 1"));
            Check.starts(x, 0, 1);
            x.run(2);
            x.cancel(0);
            Check.due("not yet given back", x.ofChannel(1, 1) * 10 + x.ofChannel(1, 6), 1);
            x.run(1);
            Check.due("taken again in the same turn", isAndHas(x, 0), 77);
            Check.due("by the PICK", x.local(0, 3), 1);
            Check.due("none is in it, one is taken", x.ofChannel(1, 1) * 10 + x.ofChannel(1, 6), 1);
        }
    }

    private static void givenAheadOfEnd() {
        Check.begin("END: those that WAIT for a VALUE of it (one that was given one is READY)");
        ScopeRow x = Check.with(Check.lines("TAKE 0", "ADD 1"), Check.lines("ADD 7", "SEND 0", "END 0"));
        Check.starts(x, 0, 0, 1);
        x.run(3);
        Check.due("the one that was given it ahead of the other", x.ofTask(0, 6) * 10 + x.ofTask(1, 6), 1);
        x.run(2);
        Check.due("it has it", isAndHas(x, 0), 28);
        Check.due("the other failed", isAndHas(x, 1), 36);
    }

    private static void takenAheadOfEnd() {
        Check.begin("END: TASKS that WAIT with a VALUE for it (one whose VALUE came in is READY)");
        for (int room = 0; room <= 1; room++) {
            ScopeRow x = Check.with(Check.lines("ADD 7", "SEND 0", "SEND 0", "ADD 1"), Check.lines("TAKE 0", "END 0"), Check.lines("SEND 0"));
            x.room(0, room);
            Check.starts(x, 0, 1);
            x.run(2);
            Check.due("ready", x.ofTask(0, 6), 0);
            Check.due("in it", x.ofChannel(0, 1), room);
            x.run(1);
            Check.due("with a value more than room it goes on, else its next SEND fails", isAndHas(x, 0), room == 1 ? 28 : 35);
            x.start(2);
            x.run(1);
            Check.due("a later SEND fails", isAndHas(x, 2), 35);
        }
    }

    private static void pickGivenAheadOfBothEnds() {
        Check.begin("of a PICK, if both have one now");
        ScopeRow x = Check.with(Check.lines("PICK"), Check.lines("END 0"), Check.lines("ADD 7", "SEND 1", "END 1"));
        Check.starts(x, 0, 0, 1, 2);
        x.run(3);
        Check.due("one END: both wait", x.ofChannel(0, 4) * 10 + x.ofChannel(1, 4), 22);
        x.run(1);
        Check.due("both ENDS: ready", x.ofTask(0, 6) * 10 + x.ofTask(1, 6), 1);
        x.run(2);
        Check.due("the one that was given it", isAndHas(x, 0) * 10 + x.local(0, 3), 271);
        Check.due("the other one", isAndHas(x, 1) * 10 + x.local(1, 3), 360);
    }

    private static void ticksTogether() {
        Check.begin("tick: how many TASKS became READY by that, of several ticks");
        ScopeRow x = Check.with(Check.lines("SLEEP 1"), Check.lines("OPEN 2 12", "SLEEP 3"), Check.lines("SLEEP 3"),
            Check.lines("OPEN 3 12", "SLEEP 3"), Check.lines("SLEEP 4"), Check.lines("OPEN 2 12", "SPAWN 5", "SHUT"));
        Check.starts(x, 4, 3, 2, 1, 0);
        x.run(5);
        Check.due("four of five, each once", x.tick(3), 4);
        Check.due("at 1 and 2", x.ofTask(4, 6) * 10 + x.ofTask(3, 6), 1);
        Check.due("at 3, by its deadline first", x.ofTask(1, 6) * 10 + x.ofTask(2, 6), 23);
        Check.due("one sleeps", x.ofTask(0, 8), 1);
        Check.due("both cancelled", x.many(9), 2);
    }

    private static void cancelledOnceByTwoDeadlines() {
        Check.begin("SCOPES by numbers whose DEADLINE it is are CANCELLED; a TASK that is HIT by both is READY once");
        ScopeRow x = Check.with(Check.lines("OPEN 2 12", "OPEN 2 5", "TAKE 0", "FAIL 1", "FAIL 1", "ADD 5", "PICK", "FAIL 1"));
        x.start(0);
        x.run(1);
        Check.due("ready", x.tick(2), 1);
        Check.due("both cancelled", x.many(9), 2);
        x.run(9);
        Check.due("on behind the inner one, then behind the outer one", isAndHas(x, 0), 21);
        Check.due("lines begun: two OPEN, TAKE, ADD, PICK", x.many(12), 5);
        Check.due("turns", x.many(11), 2);
    }

    private static void failureCancelsByNumbers() {
        Check.begin("becomes HIT is READY at once: of several, by numbers (by a failure of one IN the SCOPE)");
        ScopeRow x = Check.with(Check.lines("OPEN 0 12", "SPAWN 1", "SPAWN 2", "SPAWN 3", "SPAWN 4", "TAKE 1"),
            Check.lines("SLEEP 1", "SEND 0", "SEND 0"), Check.lines("LOCK 0", "SLEEP 9"), Check.lines("LOCK 0"),
            Check.lines("SLEEP 2", "FAIL 3"));
        x.start(0);
        x.run(9);
        x.tick(1);
        x.run(1);
        x.tick(1);
        x.run(1);
        Check.due("failed", isAndHas(x, 4), 33);
        for (int task = 0; task < 4; task++) {
            Check.due("the opener, and those in it", x.ofTask(task, 6), task);
        }
        x.run(4);
        Check.due("the opener waits for none of them any more", x.ofTask(0, 8) * 10 + x.many(6), 3);
        Check.due("closed", x.ofScope(0, 1), 2);
        x.run(1);
        Check.due("failed by the first one", isAndHas(x, 0), 33);
        Check.due("the value that came in stays, that with which it waited is gone", x.ofChannel(0, 1) * 10 + x.ofChannel(0, 3), 10);
    }

    private static void sentGoesOnBehindCancel() {
        Check.begin("whose turn begins behind one of these (a SEND whose VALUE was taken): CANCEL; the VALUE stays taken");
        ScopeRow x = Check.with(Check.lines("ADD 7", "OPEN 0 4", "SEND 0", "FAIL 1", "ADD 5"), Check.lines("TAKE 0"));
        x.room(0, 0);
        Check.starts(x, 0, 1);
        x.run(2);
        Check.due("taken", isAndHas(x, 1), 27);
        Check.yes("cancel", x.cancel(0));
        x.run(1);
        Check.due("done with 1, and 5", isAndHas(x, 0), 26);
        Check.due("taken, none in it", x.ofChannel(0, 6) * 10 + x.ofChannel(0, 1), 10);
    }
}
