/** Promises 17 to 21: what would be, and the checksum. */
final class WouldTest {
    private WouldTest() {
    }

    static void all() {
        wouldHit();
        overBy();
        isClosedBy();
        thereBy();
        digest();
        manyQuestions();
        fromNowOn();
        asItComes();
    }

    private static void wouldHit() {
        Check.begin("promise 17");
        ScopeRow x = Check.with(Check.lines("OPEN 0 6", "SPAWN 1", "SPAWN 2", "SPAWN 3", "SPAWN 1", "SHUT"),
            Check.lines("SLEEP 9"), Check.lines("SHIELD 3", "OPEN 0 3", "SLEEP 8"), Check.lines("RETURN"));
        Check.index(x, "no scope", () -> x.wouldHit(0));
        x.start(0);
        x.run(3);
        Check.due("opener, sleeper and the new ones", x.wouldHit(0), 4);
        x.run(1);
        Check.due("not the one that is over", x.ofTask(3, 1) * 10 + x.wouldHit(0), 23);
        Check.due("by the shield", x.wouldHit(1), 1);
        Check.due("inside of the shield", x.wouldHit(2), 1);
        Check.due("nothing changed", x.many(9), 0);
        x.cancel(2);
        Check.due("hit already", x.wouldHit(1), 0);
        Check.due("cancelled already", x.wouldHit(2), 0);
        x.run(9);
        Check.due("closed", x.wouldHit(2), 0);
        Check.index(x, "scope -1", () -> x.wouldHit(-1));
        Check.index(x, "scope 3", () -> x.wouldHit(3));
    }

    private static void overBy() {
        Check.begin("promise 18");
        ScopeRow x = Check.with(Check.lines("SLEEP 2", "OPEN 0 4", "SPAWN 1", "SHUT"), Check.lines("SLEEP 1"));
        x.start(0);
        long before = x.digest();
        Check.due("one turn behind each", x.overBy(1, 50), 0);
        Check.due("it sleeps till 3", x.overBy(2, 50), 0);
        Check.due("spawned ones, too", x.overBy(4, 50), 2);
        Check.due("four ticks, one turn behind each", x.overBy(4, 1), 0);
        Check.due("five", x.overBy(5, 1), 1);
        Check.due("six", x.overBy(6, 1), 2);
        Check.due("the most", x.overBy(20, 50), 2);
        Check.due("digest", x.digest(), before);
        Check.argument(x, "ticks 0", () -> x.overBy(0, 1));
        Check.argument(x, "ticks 21", () -> x.overBy(21, 1));
        Check.argument(x, "turns 0", () -> x.overBy(1, 0));
        Check.argument(x, "turns 51", () -> x.overBy(1, 51));
        Check.argument(x, "both", () -> x.overBy(-1, -1));
    }

    private static void isClosedBy() {
        Check.begin("promise 19");
        ScopeRow x = Check.with(Check.lines("OPEN 0 4", "SPAWN 1", "SPAWN 1", "SHUT"), Check.lines("SLEEP 9"),
            Check.lines("OPEN 0 2", "SHUT", "OPEN 0 4", "SPAWN 3"), Check.lines("SHIELD 2", "SLEEP 1"));
        x.start(0);
        x.run(9);
        long before = x.digest();
        Check.no("behind one turn", x.isClosedBy(0, 1));
        Check.yes("behind two", x.isClosedBy(0, 2));
        Check.yes("behind fifty", x.isClosedBy(0, 50));
        Check.due("digest", x.digest(), before);
        x.start(2);
        x.run(9);
        Check.yes("closed already", x.isClosedBy(1, 1));
        Check.no("a shield in it", x.isClosedBy(2, 50));
        Check.index(x, "scope -1", () -> x.isClosedBy(-1, 0));
        Check.index(x, "scope 4", () -> x.isClosedBy(4, 1));
        Check.argument(x, "turns 0", () -> x.isClosedBy(0, 0));
        Check.argument(x, "turns 51", () -> x.isClosedBy(0, 51));
    }

    private static void thereBy() {
        Check.begin("promise 20");
        ScopeRow x = Check.with(Check.lines("ADD 5", "TAKE 0", "FAIL 3"), Check.lines("ADD 8", "SEND 0"));
        Check.starts(x, 0, 1);
        long before = x.digest();
        Check.due("one turn", x.thereBy(0, 1), 5);
        Check.due("two turns", x.thereBy(0, 2), 5);
        Check.due("three turns", x.thereBy(0, 3), 3);
        Check.due("the other, two turns", x.thereBy(1, 2), 8);
        Check.due("nothing goes on", x.ofTask(0, 3), 0);
        Check.due("digest", x.digest(), before);
        Check.index(x, "task -1", () -> x.thereBy(-1, 0));
        Check.index(x, "task 2", () -> x.thereBy(2, 1));
        Check.argument(x, "turns 0", () -> x.thereBy(0, 0));
        Check.argument(x, "turns 51", () -> x.thereBy(1, 51));
    }

    private static void digest() {
        Check.begin("promise 21");
        Check.due("of a new object", new ScopeRow().digest(), 8245379984244863194L);
        ScopeRow x = Check.with(Check.lines("OPEN 3 7", "SPAWN 1", "SPAWN 2", "LOCK 0", "SEND 1", "SHUT", "ADD 9"),
            Check.lines("LOCK 0", "PUT 2", "TAKE 1"), Check.lines("SHIELD 2", "PICK", "SLEEP 2", "FAIL 3"));
        x.start(0);
        Check.due("of a new task", x.digest(), digestByAsking(x));
        for (int i = 0; i < 9; i++) {
            x.run(1);
            Check.due("behind a turn", x.digest(), digestByAsking(x));
            x.tick(1);
            Check.due("behind a tick", x.digest(), digestByAsking(x));
        }
    }

    private static long digestByAsking(ScopeRow x) {
        long d = 7614;
        for (int what = 0; what <= 12; what++) {
            d = d * 31 + x.many(what);
        }
        for (int task = 0; task < x.many(1); task++) {
            for (int what = 0; what <= 8; what++) {
                d = d * 31 + x.ofTask(task, what);
            }
            for (int local = 0; local < 4; local++) {
                d = d * 31 + x.local(task, local);
            }
        }
        for (int scope = 0; scope < x.many(7); scope++) {
            for (int what = 0; what <= 8; what++) {
                d = d * 31 + x.ofScope(scope, what);
            }
            d = d * 31 + x.wouldHit(scope);
        }
        for (int lock = 0; lock < 2; lock++) {
            for (int what = 0; what <= 3; what++) {
                d = d * 31 + x.ofLock(lock, what);
            }
        }
        for (int channel = 0; channel < 2; channel++) {
            for (int what = 0; what <= 6; what++) {
                d = d * 31 + x.ofChannel(channel, what);
            }
        }
        d = d * 31 + x.stuck();
        d = d * 31 + x.overBy(1, 10);
        return d * 31 + x.overBy(5, 10);
    }

    /** What would be is asked of one object, and done on another that was told the same calls. */
    private static void asItComes() {
        Check.begin("promises 18 to 20, as it comes");
        String[][][] all = {
            {Check.lines("OPEN 2 5", "SPAWN 1", "SPAWN 2", "SEND 0", "SHUT", "ADD 9"),
                Check.lines("LOCK 0", "SLEEP 2", "TAKE 0"), Check.lines("SHIELD 3", "LOCK 0", "PICK")},
            {Check.lines("ADD 4", "PUT 1", "SEND 0", "ADD 1", "SEND 0", "ADD 1", "SEND 1", "END 0"),
                Check.lines("PICK", "TAKE 0", "GET 3"), Check.lines("SLEEP 1", "TAKE 0", "TAKE 0", "FAIL 3")},
            {Check.lines("OPEN 0 8", "OPEN 4 8", "SPAWN 1", "SPAWN 2", "SLEEP 3", "SHUT", "ADD 3", "SHUT", "ADD 5"),
                Check.lines("SLEEP 1", "FAIL 6"), Check.lines("OPEN 0 5", "SHIELD 4", "SLEEP 2", "SHUT", "TAKE 1")},
            {Check.lines("OPEN 0 6", "SPAWN 1", "SPAWN 1", "LOCK 0", "TAKE 0", "TAKE 0", "FAIL 2"),
                Check.lines("LOCK 0", "FREE 0", "SEND 0", "LOCK 0"), Check.lines("ADD 2", "TAKE 0", "ADD 3", "SEND 0")},
            {Check.lines("LOCK 1", "SLEEP 2", "END 0"), Check.lines("TAKE 0", "LOCK 1"), Check.lines("PICK", "LOCK 1")},
            {Check.lines("OPEN 3 4", "TAKE 0", "SLEEP 1", "LOCK 0", "PICK", "PICK"),
                Check.lines("ADD 5", "SEND 0", "SLEEP 1", "ADD 1", "SEND 1", "SEND 0"), Check.lines("TAKE 0", "SLEEP 2")},
        };
        for (String[][] bodies : all) {
            for (int steps = 0; steps < 14; steps++) {
                asItComes(bodies, steps);
            }
        }
    }

    private static ScopeRow told(String[][] bodies, int steps) {
        ScopeRow x = Check.with(bodies);
        Check.starts(x, 0, 1, 2, 0);
        for (int i = 0; i < steps; i++) {
            if (i % 5 == 4) {
                x.tick(1);
            } else {
                x.run(1);
            }
        }
        return x;
    }

    private static void asItComes(String[][] bodies, int steps) {
        for (int turns = 1; turns < 9; turns++) {
            int most = turns;
            ScopeRow later = told(bodies, steps);
            later.run(most);
            for (int task = 0; task < told(bodies, steps).many(1); task++) {
                Check.due("thereBy", told(bodies, steps).thereBy(task, most), later.ofTask(task, 3));
            }
            for (int scope = 0; scope < told(bodies, steps).many(7); scope++) {
                ScopeRow closed = told(bodies, steps);
                closed.cancel(scope);
                closed.run(most);
                Check.due("isClosedBy", told(bodies, steps).isClosedBy(scope, most) ? 2 : 0,
                    closed.ofScope(scope, 1) / 2 * 2);
            }
            ScopeRow ticked = told(bodies, steps);
            for (int ticks = 1; ticks < 5; ticks++) {
                ticked.tick(1);
                ticked.run(most);
                Check.due("overBy", told(bodies, steps).overBy(ticks, most),
                    ticked.many(4) + ticked.many(5) + ticked.many(6));
            }
        }
    }

    /** A question behind another question is answered as if it were the first. */
    private static void manyQuestions() {
        Check.begin("promises 18 to 20, one behind another");
        ScopeRow x = Check.with(Check.lines("OPEN 0 12", "SPAWN 1", "SLEEP 1", "SPAWN 1", "SEND 0", "SHUT"),
            Check.lines("LOCK 0", "SLEEP 2", "TAKE 0"));
        x.start(0);
        x.run(2);
        int over = x.overBy(3, 9);
        boolean closed = x.isClosedBy(0, 9);
        int there = x.thereBy(0, 9);
        for (int i = 0; i < 5; i++) {
            Check.due("overBy", x.overBy(3, 9), over);
            Check.due("isClosedBy", x.isClosedBy(0, 9) ? 1 : 0, closed ? 1 : 0);
            Check.due("thereBy", x.thereBy(0, 9), there);
            x.overBy(20, 50);
        }
        Check.due("tasks", x.many(1), 2);
        Check.due("now", x.many(10), 0);
    }

    /** What would be goes on from all that is now, also from what no other question tells. */
    private static void fromNowOn() {
        Check.begin("promises 18 to 20, from now on");
        ScopeRow x = Check.with(Check.lines("PICK"), Check.lines("ADD 5", "SEND 1"));
        Check.starts(x, 0, 1);
        x.run(1);
        Check.due("one waits for either channel", x.thereBy(0, 2), 5);

        x = Check.with(Check.lines("OPEN 0 12", "TAKE 0"), Check.lines("ADD 5", "SEND 0"), Check.lines("TAKE 0"));
        Check.starts(x, 0, 1, 2);
        x.run(2);
        x.cancel(0);
        Check.due("one has something to give back", x.thereBy(2, 3), 5);

        x = Check.with(Check.lines("SLEEP 1", "TAKE 0"), Check.lines("TAKE 0"), Check.lines("ADD 5", "SEND 0"));
        Check.starts(x, 0, 1);
        x.run(2);
        x.tick(1);
        x.run(1);
        x.start(2);
        Check.due("the second waits longer", x.thereBy(1, 2) * 10 + x.thereBy(0, 2), 50);

        x = Check.with(Check.lines("OPEN 0 4", "SPAWN 1", "SHUT", "FAIL 3", "ADD 5"), Check.lines());
        x.start(0);
        x.run(1);
        Check.due("a scope is leaving for DONE", x.thereBy(0, 2), 5);

        x = Check.with(Check.lines("OPEN 0 4", "SPAWN 1", "SHUT"), Check.lines("FAIL 6"));
        x.start(0);
        x.run(2);
        Check.due("one in a scope has failed", x.thereBy(0, 1), 6);

        x = Check.with(Check.lines("ADD 5", "SEND 0", "ADD 1"));
        x.room(0, 0);
        x.start(0);
        Check.due("a room of 0", x.thereBy(0, 1), 5);
    }
}
