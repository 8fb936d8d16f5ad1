/** Sections 2 and 3, sentence by sentence: scopes that are none, first, last, full, and what just reaches a TASK. */
final class EdgesOfScopesTest {
    private EdgesOfScopesTest() {
    }

    static void all() {
        numberedAsOpened();
        fortyOfOne();
        fortyOfMany();
        deadlines();
        deadlineNextTick();
        deadlineZero();
        deadlineOfClosed();
        deadlineOfLeaving();
        spawnWithoutScope();
        spawnOfTheLastTask();
        stopAndShutWithoutScope();
        closedAtOnceIfNoneIsIn();
        closedAtOnceIfAllAreOver();
        closedByTheLast();
        firstThatFailed();
        failOfEachNumber();
        stackOfNoneAndAll();
        ofFailAndReturnWithoutScopes();
        cancelWithoutScopes();
        cancelledAsItIsTakenOff();
        hitFromTheFarthest();
        hitUpToAShield();
        shieldItself();
        waitOrNot();
        closedIsNone();
        readyAtOnce();
    }

    private static void numberedAsOpened() {
        Check.begin("SCOPES are numbered from 0 as they are opened");
        ScopeRow x = Check.with(Check.lines("OPEN 0 12", "SLEEP 1", "OPEN 0 12", "SLEEP 9"),
            Check.lines("SHIELD 12", "SLEEP 1", "SHIELD 12", "SLEEP 9"));
        Check.due("none", x.many(7), 0);
        Check.index(x, "the first, where there is none", () -> x.ofScope(0, 0));
        Check.starts(x, 1, 0);
        x.run(2);
        Check.index(x, "the third of two", () -> x.ofScope(2, 0));
        x.tick(1);
        x.run(2);
        Check.due("scopes", x.many(7), 4);
        Check.due("openers", x.ofScope(0, 0) * 1000 + x.ofScope(1, 0) * 100 + x.ofScope(2, 0) * 10 + x.ofScope(3, 0), 101);
        Check.due("shields", x.ofScope(0, 4) * 1000 + x.ofScope(1, 4) * 100 + x.ofScope(2, 4) * 10 + x.ofScope(3, 4), 1010);
    }

    private static ScopeRow opening(int scopes) {
        ScopeRow x = Check.with(Check.lines("ADD " + (scopes - 1), "PUT 0", "OPEN 0 12", "LOOP 0 2", "SLEEP 9"),
            Check.lines("OPEN 0 12", "SLEEP 9"), Check.lines("SHIELD 12", "SLEEP 9"), Check.lines("OPEN 0 2", "SHUT", "SLEEP 9"));
        x.start(0);
        x.run(1);
        return x;
    }

    private static void fortyOfOne() {
        Check.begin("SCOPES (40 at most) ... FAIL 3, if there are 40 already");
        ScopeRow x = opening(40);
        Check.due("40", x.many(7), 40);
        Check.due("on its stack", x.ofTask(0, 5), 40);
        Check.due("it sleeps", x.ofTask(0, 8), 1);
        Check.due("the last one's opener", x.ofScope(39, 0), 0);
        Check.index(x, "scope 40", () -> x.ofScope(40, 0));
        ScopeRow y = opening(41);
        Check.due("no 41st", y.many(7), 40);
        Check.due("failed with 3", y.ofTask(0, 1) * 10 + y.ofTask(0, 3), 33);
        Check.due("all closed", y.many(8), 0);
        Check.due("all cancelled by the fail", y.many(9), 40);
        Check.due("the 41st OPEN was begun", y.many(12), 83);
    }

    private static void fortyOfMany() {
        for (int body = 1; body <= 3; body++) {
            ScopeRow x = opening(39);
            x.start(body);
            x.run(1);
            Check.due("the 40th", x.many(7), 40);
            Check.due("its opener sleeps", x.ofTask(1, 8), 1);
            for (int next = 1; next <= 3; next++) {
                x.start(next);
                x.run(1);
                Check.due("a 41st", x.ofTask(next + 1, 1) * 10 + x.ofTask(next + 1, 3), 33);
            }
            Check.due("scopes", x.many(7), 40);
            Check.due("not closed", x.many(8), body == 3 ? 39 : 40);
            Check.due("cancelled", x.many(9), 0);
            x.cancel(0);
            x.run(1);
            Check.due("closed", x.many(8), body == 3 ? 0 : 1);
            x.start(1);
            x.run(1);
            Check.due("closed ones count", x.ofTask(5, 1) * 10 + x.ofTask(5, 3), 33);
        }
    }

    private static void deadlines() {
        Check.begin("with an a above 0 its DEADLINE is NOW and a; as NOW becomes that, it is CANCELLED");
        for (int a = 1; a <= 20; a++) {
            for (int now = 0; now <= 20; now += 5) {
                ScopeRow x = Check.with(Check.lines("OPEN " + a + " 2", "TAKE 0", "ADD 5"));
                if (now > 0) {
                    x.tick(now);
                }
                x.start(0);
                x.run(1);
                Check.due("deadline", x.ofScope(0, 3), now + a);
                if (a > 1) {
                    Check.due("ready one tick ahead", x.tick(a - 1), 0);
                }
                Check.due("cancelled one tick ahead", x.ofScope(0, 2), 0);
                Check.due("ready", x.tick(1), 1);
                Check.due("now", x.many(10), now + a);
                Check.due("cancelled", x.ofScope(0, 2), 1);
                x.run(1);
                Check.due("done with 1", x.ofTask(0, 3), 6);
            }
        }
    }

    private static void deadlineNextTick() {
        ScopeRow x = Check.with(Check.lines("OPEN 1 2", "TAKE 0", "OPEN 1 4", "TAKE 0", "OPEN 1 12", "TAKE 0"));
        x.start(0);
        for (int i = 0; i < 3; i++) {
            x.run(1);
            Check.due("scopes", x.many(7), i + 1);
            Check.due("deadline", x.ofScope(i, 3), i + 1);
            Check.due("ready", x.tick(1), 1);
            Check.due("cancelled", x.many(9), i + 1);
        }
        x.run(1);
        Check.due("returned", x.ofTask(0, 1) * 10 + x.ofTask(0, 3), 21);
    }

    private static void deadlineZero() {
        Check.begin("an a of 0, and a SHIELD: without a DEADLINE");
        ScopeRow x = Check.with(Check.lines("OPEN 0 12", "TAKE 0"), Check.lines("SHIELD 12", "TAKE 0"));
        Check.starts(x, 0, 1);
        x.run(2);
        Check.due("none", x.ofScope(0, 3) + x.ofScope(1, 3), -2);
        for (int i = 0; i < 10; i++) {
            Check.due("ready", x.tick(20), 0);
        }
        Check.due("cancelled", x.many(9), 0);
        Check.due("stuck", x.stuck(), 2);
    }

    private static void deadlineOfClosed() {
        Check.begin("it is CANCELLED, if it is not CLOSED");
        ScopeRow x = Check.with(Check.lines("OPEN 1 2", "SHUT", "ADD 5", "TAKE 0"),
            Check.lines("OPEN 2 12", "SPAWN 2", "SHUT"), Check.lines("SLEEP 1"));
        Check.starts(x, 0, 1);
        x.run(9);
        Check.due("closed", x.ofScope(0, 1), 2);
        Check.due("ready: the sleeper", x.tick(1), 1);
        Check.due("not cancelled", x.ofScope(0, 2), 0);
        x.run(1);
        Check.due("closed, its opener in the row", x.ofScope(1, 1) * 10 + x.ofTask(1, 6), 20);
        Check.due("ready", x.tick(1), 0);
        Check.due("cancelled", x.many(9), 0);
        x.run(1);
        Check.due("done with 0", x.ofTask(1, 1) * 10 + x.ofTask(1, 3), 20);
    }

    private static void deadlineOfLeaving() {
        ScopeRow x = Check.with(Check.lines("OPEN 2 12", "SPAWN 1", "SHUT"), Check.lines("SLEEP 9"));
        x.start(0);
        x.run(9);
        Check.due("leaving", x.ofScope(0, 1), 1);
        Check.due("ready", x.tick(1), 0);
        Check.due("ready: the sleeper alone", x.tick(1), 1);
        Check.due("cancelled, leaving", x.ofScope(0, 2) * 10 + x.ofScope(0, 1), 11);
        x.run(9);
        Check.due("done with 1", x.ofTask(0, 1) * 10 + x.ofTask(0, 3), 21);
    }

    private static void spawnWithoutScope() {
        Check.begin("SPAWN: FAIL 1 without a SCOPE");
        ScopeRow x = Check.with(Check.lines("SPAWN 0"), Check.lines("SPAWN 7"), Check.lines("OPEN 0 2", "SHUT", "SPAWN 3"),
            Check.lines("SLEEP 1"), Check.lines("OPEN 0 12", "SPAWN 0", "SLEEP 1"));
        Check.starts(x, 0, 1, 2, 4);
        x.run(4);
        for (int task = 0; task < 3; task++) {
            Check.due("failed with 1", x.ofTask(task, 1) * 10 + x.ofTask(task, 3), 31);
        }
        Check.due("in a scope, without one of its own", x.ofTask(4, 4) * 10 + x.ofTask(4, 5), 10);
        x.run(1);
        Check.due("it fails, too", x.ofTask(4, 1) * 10 + x.ofTask(4, 3), 31);
        for (int i = 5; i < 24; i++) {
            x.start(0);
        }
        x.run(1);
        x.run(1);
        Check.due("ahead of FAIL 2 for 24 tasks", x.ofTask(5, 1) * 10 + x.ofTask(5, 3), 31);
    }

    private static void spawnOfTheLastTask() {
        Check.begin("SPAWN: FAIL 2, if there is no such BODY, or there are 24 TASKS");
        for (int tasks = 21; tasks <= 24; tasks++) {
            ScopeRow x = Check.with(Check.lines("OPEN 0 12", "SPAWN 1", "SLEEP 9"), Check.lines("ADD 1"));
            x.start(0);
            for (int i = 1; i < tasks; i++) {
                x.start(1);
            }
            x.run(1);
            Check.due("tasks", x.many(1), tasks < 24 ? tasks + 1 : 24);
            Check.due("there is", x.ofTask(0, 3), tasks < 24 ? tasks : 2);
            Check.due("in its scope", x.ofScope(0, 5), tasks < 24 ? 1 : 0);
            Check.due("cancelled", x.ofScope(0, 2), tasks < 24 ? 0 : 1);
            Check.due("in the row", x.many(2), tasks < 24 ? tasks : 23);
            Check.due("the last one's place", x.ofTask(x.many(1) - 1, 6), tasks < 24 ? tasks - 1 : 22);
        }
        ScopeRow y = Check.with(Check.lines("OPEN 0 12", "SPAWN 1", "SLEEP 9"), Check.lines());
        for (int i = 0; i < 23; i++) {
            y.start(1);
        }
        y.run(50);
        y.start(0);
        y.run(1);
        Check.due("those that are over count", y.ofTask(23, 1) * 10 + y.ofTask(23, 3), 32);
    }

    private static void stopAndShutWithoutScope() {
        Check.begin("STOP, SHUT: FAIL 1 without one");
        for (String kind : new String[] {"STOP", "SHUT"}) {
            Check.due(kind, Check.alone("ADD 9", kind), 301);
            Check.due(kind + " behind the last one", Check.alone("OPEN 0 2", "SHUT", kind), 301);
            Check.due(kind + " behind a shield", Check.alone("SHIELD 2", "SHUT", kind), 301);
            ScopeRow x = Check.with(Check.lines("OPEN 0 12", "SPAWN 1", "SLEEP 1"), Check.lines(kind));
            x.start(0);
            x.run(2);
            Check.due(kind + " of one that is in a scope, but has none", x.ofTask(1, 1) * 10 + x.ofTask(1, 3), 31);
        }
        Check.due("STOP twice", Check.alone("OPEN 0 4", "STOP", "STOP", "SHUT", "ADD 1"), 202);
    }

    private static void closedAtOnceIfNoneIsIn() {
        Check.begin("CLOSED as soon as all TASKS that are IN it are OVER: at once, in the same turn, if they are");
        for (String leave : new String[] {"SHUT", "RETURN", "FAIL 4", "SKIP 11"}) {
            ScopeRow x = Check.with(Check.lines("OPEN 0 12", leave));
            x.start(0);
            Check.due("one turn of " + leave, x.run(50), 1);
            Check.due("closed by " + leave, x.ofScope(0, 1), 2);
            Check.due("cancelled", x.ofScope(0, 2), leave.startsWith("FAIL") ? 1 : 0);
            Check.due("over", x.ofTask(0, 1), leave.startsWith("FAIL") ? 3 : 2);
        }
    }

    private static void closedAtOnceIfAllAreOver() {
        for (int others = 1; others <= 22; others += 7) {
            ScopeRow x = Check.with(
                Check.lines("ADD " + (others - 1), "PUT 0", "OPEN 0 8", "SPAWN 1", "LOOP 0 3", "SLEEP 1", "ADD 9", "SHUT", "ADD 3"),
                Check.lines("ADD 1"));
            x.start(0);
            Check.due("turns", x.run(50), others + 1);
            Check.due("all over", x.ofScope(0, 5) * 100 + x.ofScope(0, 6), others * 101);
            Check.due("open", x.ofScope(0, 1), 0);
            x.tick(1);
            Check.due("the same turn", x.run(50), 1);
            Check.due("closed", x.ofScope(0, 1), 2);
            Check.due("with 0, and 3", x.ofTask(0, 3), 3);
        }
    }

    private static void closedByTheLast() {
        Check.begin("otherwise the TASK WAITS for that, and is READY as it is CLOSED");
        // 23 in it, each over at a tick of its own but for some at once; the last one closes it.
        ScopeRow x = Check.with(Check.lines("ADD 22", "PUT 0", "OPEN 0 12", "SPAWN 1", "LOOP 0 3", "SHUT"),
            Check.lines("LOCK 0", "SLEEP 1"));
        x.start(0);
        Check.due("turns", x.run(50), 24);
        Check.due("it waits, and all in it", x.many(3), 24);
        for (int i = 1; i <= 23; i++) {
            Check.due("leaving", x.ofScope(0, 1), 1);
            Check.due("over", x.ofScope(0, 6), i - 1);
            x.tick(1);
            x.run(2);
        }
        Check.due("over", x.ofScope(0, 6), 23);
        Check.due("closed", x.ofScope(0, 1), 2);
        Check.due("its opener's turn was done, too", x.ofTask(0, 1), 2);
    }

    private static void firstThatFailed() {
        Check.begin("If a TASK that is IN it has FAILED, the first one of these that did");
        for (int k = 1; k <= 7; k++) {
            ScopeRow x = Check.with(Check.lines("OPEN 0 12", "SPAWN 1", "SPAWN 2", "SHUT"), Check.lines("TAKE 0"),
                Check.lines("FAIL " + k));
            x.start(0);
            x.run(50);
            Check.due("failed with that", x.ofTask(0, 1) * 10 + x.ofTask(0, 3), 30 + k);
            Check.due("the first", x.ofScope(0, 8), 2);
            Check.due("how many", x.ofScope(0, 7), 1);
        }
        ScopeRow y = Check.with(Check.lines("OPEN 0 12", "SPAWN 1", "SHUT"), Check.lines("RETURN"));
        y.start(0);
        y.run(50);
        Check.due("none", y.ofScope(0, 8), -1);
        Check.due("none", y.ofScope(0, 7), 0);
        ScopeRow z = Check.with(Check.lines("ADD 22", "PUT 0", "OPEN 0 12", "SPAWN 1", "LOOP 0 3", "SHUT"), Check.lines("FAIL 6"));
        z.start(0);
        z.run(50);
        Check.due("all of 23", z.ofScope(0, 7) * 100 + z.ofScope(0, 8), 2301);
        Check.due("failed with 6", z.ofTask(0, 1) * 10 + z.ofTask(0, 3), 36);
    }

    private static void failOfEachNumber() {
        Check.begin("FAIL k with SCOPES on it: the innermost one is CANCELLED, and is LEAVING, for FAIL k (it stays that FAIL)");
        for (int k = 1; k <= 7; k++) {
            ScopeRow x = Check.with(Check.lines("OPEN 0 12", "OPEN 0 12", "FAIL " + k));
            x.start(0);
            x.run(1);
            Check.due("both cancelled", x.many(9), 2);
            Check.due("both closed", x.many(8), 0);
            Check.due("failed with " + k, x.ofTask(0, 1) * 10 + x.ofTask(0, 3), 30 + k);

            // Who is IN the SCOPE fails with another number.
            ScopeRow y = Check.with(Check.lines("OPEN 0 12", "SPAWN 1", "FAIL " + k), Check.lines("FAIL " + (8 - k)));
            y.start(0);
            y.run(1);
            Check.due("cancelled, leaving", y.ofScope(0, 2) * 10 + y.ofScope(0, 1), 11);
            y.run(50);
            Check.due("the one in it failed", y.ofTask(1, 3) * 10 + y.ofScope(0, 7), (8 - k) * 10 + 1);
            Check.due("it stays that", y.ofTask(0, 1) * 10 + y.ofTask(0, 3), 30 + k);
        }
    }

    private static void stackOfNoneAndAll() {
        Check.begin("A TASK has a STACK of SCOPES that it opened, the last one innermost");
        ScopeRow x = Check.with(Check.lines("OPEN 0 3", "OPEN 0 3", "OPEN 0 3", "SLEEP 1", "SHUT", "FAIL 2"));
        x.start(0);
        Check.due("none", x.ofTask(0, 5), 0);
        x.run(1);
        for (int left = 3; left > 0; left--) {
            Check.due("left", x.ofTask(0, 5), left);
            Check.due("closed", x.many(8), left);
            for (int scope = 0; scope < 3; scope++) {
                Check.due("the last one first", x.ofScope(scope, 1), scope < left ? 0 : 2);
            }
            x.tick(1);
            x.run(1);
        }
        Check.due("none", x.ofTask(0, 5), 0);
        Check.due("it sleeps without any", x.ofTask(0, 8), 1);
        x.tick(1);
        x.run(1);
        Check.due("SHUT fails", x.ofTask(0, 1) * 10 + x.ofTask(0, 3), 31);
    }

    private static void ofFailAndReturnWithoutScopes() {
        Check.begin("Without SCOPES on it: RETURN: the TASK is RETURNED; FAIL k: it is FAILED, with k");
        Check.due("RETURN", Check.alone("ADD 7", "RETURN"), 207);
        Check.due("FAIL", Check.alone("ADD 9", "FAIL 7"), 307);
        // One that is IN a SCOPE, without one of its own: a RETURN leaves that as it is.
        ScopeRow x = Check.with(Check.lines("OPEN 0 12", "SPAWN 1", "SPAWN 2", "SLEEP 9"), Check.lines("RETURN"), Check.lines("SLEEP 9"));
        x.start(0);
        x.run(9);
        Check.due("open", x.ofScope(0, 1), 0);
        Check.due("not cancelled", x.ofScope(0, 2), 0);
        Check.due("over", x.ofScope(0, 6), 1);
    }

    private static void cancelWithoutScopes() {
        Check.begin("Without SCOPES on it: CANCEL: it is DROPPED");
        ScopeRow x = Check.with(Check.lines("OPEN 0 12", "SPAWN 1", "SHUT"), Check.lines("ADD 8", "LOCK 1", "TAKE 0"));
        x.start(0);
        x.run(9);
        x.cancel(0);
        Check.due("not yet", x.ofTask(1, 1), 0);
        x.run(1);
        Check.due("dropped, with what there was", x.ofTask(1, 1) * 10 + x.ofTask(1, 3), 48);
        Check.due("its lock is free", x.ofLock(1, 0), -1);
        Check.due("over, not failed", x.ofScope(0, 6) * 10 + x.ofScope(0, 7), 10);
        Check.due("closed by that", x.ofScope(0, 1), 2);
    }

    private static void cancelledAsItIsTakenOff() {
        Check.begin("DONE: there is 1, if it is CANCELLED; CANCEL: if it is CANCELLED itself, as DONE");
        // The inner one is CANCELLED only while it is LEAVING for CANCEL: that counts as it is taken off.
        ScopeRow x = Check.with(Check.lines("OPEN 0 12", "OPEN 0 5", "SPAWN 1", "SLEEP 9", "FAIL 1", "RETURN"),
            Check.lines("SHIELD 12", "SLEEP 5"));
        x.start(0);
        x.run(9);
        x.cancel(0);
        x.run(9);
        Check.due("leaving for CANCEL", x.ofTask(0, 8), 5);
        Check.yes("cancelled as it is leaving", x.cancel(1));
        x.tick(5);
        x.run(1);
        Check.due("closed", x.ofScope(1, 1), 2);
        x.run(1);
        Check.due("on with line 5, with 1", x.ofTask(0, 1) * 10 + x.ofTask(0, 3), 21);

        // Once it is CLOSED it is too late.
        ScopeRow y = Check.with(Check.lines("OPEN 0 12", "SPAWN 1", "SHUT"), Check.lines("SLEEP 1"));
        y.start(0);
        y.run(9);
        y.tick(1);
        y.run(1);
        Check.no("cancel of a closed one", y.cancel(0));
        y.run(1);
        Check.due("with 0", y.ofTask(0, 1) * 10 + y.ofTask(0, 3), 20);
    }

    /** 24 TASKS, each IN the SCOPE of the one before it; all but the last open one, of a KIND. */
    private static ScopeRow chain(String kind) {
        ScopeRow x = Check.with(Check.lines("OPEN 0 12", "SPAWN 1", "SEND 0", "SLEEP 9"),
            Check.lines("TAKE 0", "ADD -22", "SKIP 4", "SLEEP 9", kind, "SPAWN 1", "SEND 0", "SLEEP 9"));
        x.start(0);
        Check.due("turns", x.run(50), 24);
        Check.due("scopes", x.many(7), 23);
        Check.due("all sleep", x.many(3), 24);
        Check.due("the last one's scope", x.ofTask(23, 4) * 10 + x.ofTask(23, 5), 220);
        return x;
    }

    private static void hitFromTheFarthest() {
        Check.begin("from its innermost SCOPE outwards, then the SCOPE that it is IN, ... and so on");
        for (int scope = 0; scope < 23; scope++) {
            ScopeRow x = chain("OPEN 0 12");
            Check.due("would hit", x.wouldHit(scope), 24 - scope);
            x.cancel(scope);
            Check.due("ready", x.many(2), 24 - scope);
            for (int task = 0; task < 24; task++) {
                Check.due("hit", x.ofTask(task, 7), task < scope ? 0 : 1);
                Check.due("by numbers", x.ofTask(task, 6), task < scope ? -1 : task - scope);
            }
            Check.due("turns up to the opener", x.run(50), 2 * (24 - scope) - 1);
            Check.due("dropped", x.many(6), 23 - scope);
            Check.due("its opener is done with 1", x.ofTask(scope, 1) * 10 + x.ofTask(scope, 3), 21);
        }
    }

    private static void hitUpToAShield() {
        Check.begin("a CANCELLED one comes ahead of each SHIELD");
        ScopeRow x = chain("SHIELD 12");
        Check.due("by the outermost: its opener", x.wouldHit(0), 1);
        for (int scope = 1; scope < 22; scope++) {
            Check.due("by a shield: its opener", x.wouldHit(scope), 1);
        }
        Check.due("by the last shield: the one in it, too", x.wouldHit(22), 2);
        x.cancel(0);
        Check.due("hit", x.ofTask(0, 7) * 10 + x.ofTask(1, 7), 10);
        Check.due("ready", x.many(2), 1);
        x.cancel(22);
        Check.due("hit by the shield", x.ofTask(22, 7) * 10 + x.ofTask(23, 7), 11);
        Check.due("not hit", x.ofTask(21, 7), 0);
        Check.due("ready", x.many(2), 3);
    }

    private static void shieldItself() {
        Check.begin("(a SHIELD that is CANCELLED itself counts as CANCELLED)");
        // Of three SCOPES on a STACK one is a SHIELD, and one is CANCELLED: who is HIT by that.
        String[] kinds = {"OPEN 0 12", "SHIELD 12"};
        for (int shield = 0; shield < 3; shield++) {
            for (int scope = 0; scope < 3; scope++) {
                ScopeRow x = Check.with(Check.lines(kinds[shield == 0 ? 1 : 0], kinds[shield == 1 ? 1 : 0],
                    kinds[shield == 2 ? 1 : 0], "TAKE 0"));
                x.start(0);
                x.run(1);
                Check.due("would hit", x.wouldHit(scope), scope >= shield ? 1 : 0);
                x.cancel(scope);
                Check.due("hit", x.ofTask(0, 7), scope >= shield ? 1 : 0);
                Check.due("ready", x.many(2), scope >= shield ? 1 : 0);
            }
        }
    }

    private static void waitOrNot() {
        Check.begin("whether it would have to WAIT or not: CANCEL, instead");
        String[] waits = {"SLEEP 1", "LOCK 1", "SEND 1", "TAKE 1", "PICK"};
        String[] noWaits = {"ADD 1", "GET 0", "PUT 0", "FREE 0", "END 0", "SPAWN 0", "OPEN 0 12", "SHIELD 12", "STOP"};
        for (String wait : waits) {
            // There is a VALUE in channel 1, and nobody holds lock 1: neither would WAIT.
            ScopeRow x = Check.with(Check.lines("OPEN 0 12", "LOCK 0", "STOP", wait, "FAIL 6"), Check.lines("SEND 1"));
            x.room(1, 2);
            Check.starts(x, 1, 0);
            x.run(2);
            Check.due(wait, x.ofTask(1, 1) * 10 + x.ofTask(1, 3), 21);
            Check.due("it was begun", x.many(12), 5);
            Check.due("values", x.ofChannel(1, 1) * 10 + x.ofChannel(1, 6), 10);
            Check.due("lock 1 was never held", x.ofLock(1, 3), 0);
        }
        for (String line : noWaits) {
            ScopeRow x = Check.with(Check.lines("OPEN 0 12", "LOCK 0", "STOP", line, "FAIL 6"));
            x.start(0);
            x.run(1);
            Check.due(line + " is begun, and the next one", x.many(12), 5);
        }
    }

    private static void closedIsNone() {
        Check.begin("SCOPES that are CLOSED are none of these");
        // A CANCELLED one that is CLOSED is still on the STACK till its opener's turn.
        ScopeRow x = Check.with(Check.lines("OPEN 0 12", "OPEN 0 4", "SPAWN 1", "SHUT", "TAKE 0"), Check.lines("TAKE 0"));
        x.start(0);
        x.run(9);
        x.cancel(1);
        Check.due("hit", x.ofTask(0, 7), 1);
        x.run(1);
        Check.due("closed, on the stack", x.ofScope(1, 1) * 10 + x.ofTask(0, 5), 22);
        Check.due("not hit by it", x.ofTask(0, 7), 0);
        Check.due("would be hit by the next one", x.wouldHit(0), 1);
        Check.due("not by it", x.wouldHit(1), 0);

        // A SHIELD that is CLOSED keeps nothing off.
        ScopeRow y = Check.with(Check.lines("OPEN 0 12", "SHIELD 4", "SPAWN 1", "SHUT", "TAKE 0"), Check.lines("SLEEP 1"));
        y.start(0);
        y.run(9);
        y.cancel(0);
        Check.due("kept off", y.ofTask(0, 7), 0);
        y.tick(1);
        y.run(1);
        Check.due("closed, on the stack", y.ofScope(1, 1) * 10 + y.ofTask(0, 5), 22);
        Check.due("hit", y.ofTask(0, 7), 1);
        y.run(1);
        Check.due("cancelled at the next wait", y.ofTask(0, 1) * 10 + y.ofTask(0, 3), 21);
    }

    private static void readyAtOnce() {
        Check.begin("A TASK that WAITS at one of these and becomes HIT is READY at once");
        String[] waits = {"SLEEP 9", "LOCK 0", "SEND 0", "TAKE 1", "PICK"};
        for (String wait : waits) {
            ScopeRow x = Check.with(Check.lines("LOCK 0", "SLEEP 9"), Check.lines("OPEN 0 12", wait));
            x.room(0, 0);
            Check.starts(x, 0, 1);
            x.run(2);
            Check.due("waits at " + wait, x.ofTask(1, 1), 1);
            Check.yes("cancel", x.cancel(0));
            Check.due("ready", x.ofTask(1, 6), 0);
            Check.due("nobody waits for the lock", x.ofLock(0, 1), 0);
            Check.due("nobody waits at a channel", x.ofChannel(0, 3) + x.ofChannel(0, 4) + x.ofChannel(1, 4), 0);
            Check.due("at its line till then", x.ofTask(1, 2), 1);
        }
        ScopeRow y = Check.with(Check.lines("OPEN 0 12", "SPAWN 1", "SHUT"), Check.lines("SHIELD 12", "TAKE 0"));
        y.start(0);
        y.run(2);
        y.cancel(0);
        Check.due("one that waits for a scope is hit, and waits on", y.ofTask(0, 7) * 10 + y.ofTask(0, 1), 11);
        Check.due("nobody is ready", y.many(2), 0);
    }
}
