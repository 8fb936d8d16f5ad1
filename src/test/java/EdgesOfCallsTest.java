import java.math.BigInteger;
import java.util.ArrayList;
import java.util.List;
import java.util.function.Supplier;

/** Promises 1 to 21: the first and the last number of each call, those beyond, and what a refused call leaves. */
final class EdgesOfCallsTest {
    private static final Class<IndexOutOfBoundsException> INDEX = IndexOutOfBoundsException.class;
    private static final Class<IllegalArgumentException> ARGUMENT = IllegalArgumentException.class;
    private static final Class<IllegalStateException> STATE = IllegalStateException.class;
    private static final int[] BEYOND = {Integer.MIN_VALUE, -1, Integer.MAX_VALUE};

    private EdgesOfCallsTest() {
    }

    static void all() {
        withoutAnything();
        bodiesOfCalls();
        rooms();
        starts();
        runs();
        turnsOfQuestions();
        ticks();
        cancels();
        tasksAndScopes();
        whats();
        locals();
        locksAndChannels();
        twoNumbersWrong();
        firstNamedFirst();
        refusedAllAlong();
        lastCallOfAll();
        noTaskForAMean();
        mostLines();
        stuckAtItsEdges();
        wouldHitAtItsEdges();
        closedByItsLastTurn();
        digestWraps();
        digestAtItsTurns();
        digestOfTheFullest();
    }

    /** Four BODIES, no TASK. */
    private static ScopeRow quiet() {
        ScopeRow x = Check.with(Check.lines("OPEN 5 5", "SPAWN 1", "SHIELD 5", "SEND 0", "TAKE 1", "SHUT"),
            Check.lines("LOCK 0", "SLEEP 2", "FAIL 3"), Check.lines("LOCK 0", "PICK", "TAKE 0"), Check.lines("ADD 1"));
        x.room(0, 0);
        return x;
    }

    /** Three TASKS, one of them READY, two SCOPES. */
    private static ScopeRow busy() {
        ScopeRow x = quiet();
        Check.starts(x, 0, 2);
        x.run(3);
        return x;
    }

    private static void withoutAnything() {
        Check.begin("Creates a machine without BODIES and TASKS");
        ScopeRow x = new ScopeRow();
        for (int number : new int[] {0, -1, 1, Integer.MIN_VALUE, Integer.MAX_VALUE}) {
            Check.index(x, "start " + number, () -> x.start(number));
            Check.index(x, "line " + number, () -> x.line(number, 0, 0, 0));
            Check.index(x, "cancel " + number, () -> x.cancel(number));
            Check.index(x, "ofTask " + number, () -> x.ofTask(number, 0));
            Check.index(x, "local " + number, () -> x.local(number, 0));
            Check.index(x, "ofScope " + number, () -> x.ofScope(number, 0));
            Check.index(x, "wouldHit " + number, () -> x.wouldHit(number));
            Check.index(x, "isClosedBy " + number, () -> x.isClosedBy(number, 1));
            Check.index(x, "thereBy " + number, () -> x.thereBy(number, 1));
        }
        Check.due("run", x.run(50), 0);
        Check.due("tick", x.tick(20), 0);
        Check.due("now", x.many(10), 20);
        Check.due("overBy", x.overBy(20, 50), 0);
        Check.due("stuck", x.stuck(), 0);
        Check.due("mean", x.meanLines(), 0.0);
        Check.due("nothing shows later", Check.later(new ScopeRow()), Check.later(new ScopeRow()));
    }

    private static void bodiesOfCalls() {
        Check.begin("line, start: IndexOutOfBoundsException if there is no such BODY");
        Check.within(EdgesOfCallsTest::quiet, "line of body", 0, 3, INDEX, (x, body) -> x.line(body, 0, 0, 0));
        Check.within(EdgesOfCallsTest::quiet, "start of body", 0, 3, INDEX, ScopeRow::start);
        Check.within(EdgesOfCallsTest::busy, "start of body", 0, 3, INDEX, ScopeRow::start);
        Supplier<ScopeRow> eight = () -> {
            ScopeRow x = quiet();
            for (int i = 0; i < 4; i++) {
                x.body();
            }
            return x;
        };
        Check.within(eight, "line of body", 0, 7, INDEX, (x, body) -> x.line(body, 0, 0, 0));
        Check.within(eight, "start of body", 0, 7, INDEX, ScopeRow::start);
    }

    private static void rooms() {
        Check.begin("room: no such CHANNEL, room is not 0 to 3, there was a TASK");
        Check.within(EdgesOfCallsTest::quiet, "room of channel", 0, 1, INDEX, (x, channel) -> x.room(channel, 2));
        Check.within(EdgesOfCallsTest::quiet, "room", 0, 3, ARGUMENT, (x, room) -> x.room(0, room));
        Check.within(EdgesOfCallsTest::quiet, "room", 0, 3, ARGUMENT, (x, room) -> x.room(1, room));
        ScopeRow x = quiet();
        Check.due("that before", x.room(1, 3), 1);
        Check.due("that before", x.room(1, 0), 3);
        Check.due("that before", x.room(1, 0), 0);
        Check.index(x, "a start of no body makes no task", () -> x.start(4));
        Check.due("so that it goes on", x.room(1, 2), 0);
        x.start(3);
        for (int room = 0; room <= 3; room++) {
            int number = room;
            Check.state(x, "room " + room, () -> x.room(1, number));
            Check.state(x, "room " + room, () -> x.room(0, number));
        }
        x.run(1);
        Check.due("the task is over", x.many(4), 1);
        Check.state(x, "there was a task", () -> x.room(1, 2));
        Check.due("rooms", x.ofChannel(0, 0) * 10 + x.ofChannel(1, 0), 2);
    }

    private static void starts() {
        Check.begin("start: IllegalStateException if there are 24 TASKS");
        ScopeRow x = quiet();
        for (int i = 0; i < 24; i++) {
            Check.due("tasks", x.many(1), i);
            Check.due("number", x.start(3), i);
        }
        for (int body = 0; body < 4; body++) {
            int number = body;
            Check.state(x, "a 25th", () -> x.start(number));
        }
        for (int number : BEYOND) {
            Check.index(x, "a 25th of body " + number, () -> x.start(number));
        }
        Check.index(x, "a 25th of body 4", () -> x.start(4));
        Check.due("turns", x.run(50), 24);
        Check.state(x, "a 25th, all being over", () -> x.start(3));

        ScopeRow y = Check.with(Check.lines("OPEN 0 12", "SPAWN 1", "SLEEP 9"), Check.lines());
        for (int i = 0; i < 22; i++) {
            y.start(0);
        }
        y.run(1);
        Check.due("the 23rd was spawned", y.many(1), 23);
        Check.due("the 24th", y.start(1), 23);
        Check.state(y, "a 25th", () -> y.start(1));
    }

    /** Two hand VALUES to one another without ROOM, without an end. */
    private static ScopeRow endless() {
        ScopeRow x = Check.with(Check.lines("GET 1", "ADD 1", "PUT 1", "SEND 0", "TAKE 1", "PUT 0", "LOOP 0 0"),
            Check.lines("TAKE 0", "ADD 1", "SEND 1", "PUT 0", "LOOP 0 0"));
        x.room(0, 0);
        x.room(1, 0);
        Check.starts(x, 0, 1);
        return x;
    }

    private static void runs() {
        Check.begin("run: turns is not 1 to 50");
        Check.within(EdgesOfCallsTest::busy, "run", 1, 50, ARGUMENT, ScopeRow::run);
        Check.within(EdgesOfCallsTest::quiet, "run", 1, 50, ARGUMENT, ScopeRow::run);
        ScopeRow x = endless();
        Check.due("the most", x.run(50), 50);
        Check.due("the fewest", x.run(1), 1);
        Check.due("one less than the most", x.run(49), 49);
        Check.due("turns", x.many(11), 100);
        ScopeRow y = endless();
        for (int i = 0; i < 100; i++) {
            Check.due("one by one", y.run(1), 1);
        }
        Check.due("as many", y.digest(), x.digest());
        ScopeRow z = quiet();
        z.start(3);
        Check.due("as long as there is one", z.run(50), 1);
        Check.due("none", z.run(1), 0);
    }

    /** Two hand VALUES to one another; the second one is over, and its two SCOPES are CLOSED, by that turn from now. */
    private static ScopeRow overIn(int turns) {
        String[] even = {"OPEN 0 12", "SHIELD 12", "ADD " + (turns - 2) / 2, "PUT 0", "SEND 0", "TAKE 1", "LOOP 0 4"};
        String[] odd = {"OPEN 0 12", "SHIELD 12", "ADD " + (turns - 1) / 2, "PUT 0", "SEND 0", "TAKE 1", "LOOP 0 4"};
        ScopeRow x = Check.with(turns % 2 == 0 ? even : odd, Check.lines("TAKE 0", "SEND 1", "ADD 99", "PUT 1", "LOOP 1 0"));
        x.room(0, 0);
        x.room(1, 0);
        Check.starts(x, 1, 0);
        x.run(turns % 2 == 0 ? 2 : 3);
        return x;
    }

    private static void turnsOfQuestions() {
        Check.begin("overBy, isClosedBy, thereBy: turns is not 1 to 50; ticks is not 1 to 20");
        Check.within(EdgesOfCallsTest::busy, "ticks", 1, 20, ARGUMENT, (x, ticks) -> x.overBy(ticks, 1));
        Check.within(EdgesOfCallsTest::busy, "ticks", 1, 20, ARGUMENT, (x, ticks) -> x.overBy(ticks, 50));
        Check.within(EdgesOfCallsTest::busy, "turns of overBy", 1, 50, ARGUMENT, (x, turns) -> x.overBy(1, turns));
        Check.within(EdgesOfCallsTest::busy, "turns of overBy", 1, 50, ARGUMENT, (x, turns) -> x.overBy(20, turns));
        Check.within(EdgesOfCallsTest::busy, "turns of isClosedBy", 1, 50, ARGUMENT, (x, turns) -> x.isClosedBy(0, turns));
        Check.within(EdgesOfCallsTest::busy, "turns of thereBy", 1, 50, ARGUMENT, (x, turns) -> x.thereBy(2, turns));

        // The most is taken as it is: 50 turns, not 49, behind each of 20 ticks.
        for (int turns = 48; turns <= 50; turns++) {
            ScopeRow x = endless();
            ScopeRow y = endless();
            x.run(turns);
            for (int task = 0; task < 2; task++) {
                Check.due("there behind " + turns, y.thereBy(task, turns), x.ofTask(task, 3));
            }
        }
        for (int in = 8; in <= 52; in++) {
            for (int turns = 1; turns <= 50; turns++) {
                if (turns == 1 || turns == 50 || Math.abs(turns - in) <= 1) {
                    ScopeRow x = overIn(in);
                    Check.due("over behind a tick and " + turns, x.overBy(1, turns), turns >= in ? 1 : 0);
                    Check.due("closed behind " + turns, x.isClosedBy(0, turns) ? 1 : 0, turns >= in ? 1 : 0);
                    Check.due("over behind 5 ticks and " + turns, x.overBy(5, turns), 5 * turns >= in ? 1 : 0);
                }
            }
        }
        // The most ticks are taken as they are, too: two sleep till 20, one till 19.
        ScopeRow z = Check.with(Check.lines("SLEEP 9", "SLEEP 9", "SLEEP 2"), Check.lines("SLEEP 9", "SLEEP 9", "SLEEP 1"));
        Check.starts(z, 0, 0, 1);
        z.run(9);
        Check.due("18 ticks", z.overBy(18, 50), 0);
        Check.due("19 ticks", z.overBy(19, 50), 1);
        Check.due("20 ticks", z.overBy(20, 50), 3);
        Check.due("20 ticks, one turn each", z.overBy(20, 1), 1);
        Check.due("20 ticks, two turns each", z.overBy(20, 2), 2);
        Check.due("20 ticks, three turns each", z.overBy(20, 3), 3);
    }

    private static void ticks() {
        Check.begin("tick: ticks is not 1 to 20");
        Check.within(EdgesOfCallsTest::busy, "tick", 1, 20, ARGUMENT, ScopeRow::tick);
        ScopeRow x = Check.with(Check.lines("SLEEP 9"), Check.lines("OPEN 20 12", "TAKE 0"), Check.lines("OPEN 19 12", "TAKE 0"));
        Check.starts(x, 0, 1, 2);
        x.run(9);
        Check.due("ready by the most", x.tick(20), 3);
        Check.due("now", x.many(10), 20);
        Check.due("in their order", x.ofTask(0, 6) * 100 + x.ofTask(2, 6) * 10 + x.ofTask(1, 6), 12);
        Check.due("ready by the fewest", x.tick(1), 0);
        Check.due("now", x.many(10), 21);
    }

    private static void cancels() {
        Check.begin("cancel: no such SCOPE; false, if it is CLOSED");
        Check.within(EdgesOfCallsTest::busy, "cancel", 0, 1, INDEX, ScopeRow::cancel);
        ScopeRow x = Check.with(Check.lines("OPEN 0 2", "SHUT", "OPEN 0 12", "OPEN 0 12", "SPAWN 1", "SHUT"), Check.lines("TAKE 0"));
        x.start(0);
        x.run(50);
        Check.no("closed", x.cancel(0));
        Check.yes("open", x.cancel(1));
        Check.no("cancelled already", x.cancel(1));
        Check.yes("leaving", x.cancel(2));
        Check.no("cancelled already, leaving", x.cancel(2));
        x.run(50);
        Check.no("closed, cancelled", x.cancel(1) || x.cancel(2));
        Check.due("cancelled ever", x.many(9), 2);
    }

    private static void tasksAndScopes() {
        Check.begin("no such TASK, no such SCOPE");
        Check.within(EdgesOfCallsTest::busy, "ofTask", 0, 2, INDEX, (x, task) -> x.ofTask(task, 0));
        Check.within(EdgesOfCallsTest::busy, "local", 0, 2, INDEX, (x, task) -> x.local(task, 3));
        Check.within(EdgesOfCallsTest::busy, "thereBy", 0, 2, INDEX, (x, task) -> x.thereBy(task, 50));
        Check.within(EdgesOfCallsTest::busy, "ofScope", 0, 1, INDEX, (x, scope) -> x.ofScope(scope, 8));
        Check.within(EdgesOfCallsTest::busy, "wouldHit", 0, 1, INDEX, ScopeRow::wouldHit);
        Check.within(EdgesOfCallsTest::busy, "isClosedBy", 0, 1, INDEX, (x, scope) -> x.isClosedBy(scope, 1));
        // Full: 24 TASKS and 40 SCOPES.
        Check.within(EdgesOfCallsTest::fullest, "ofTask", 0, 23, INDEX, (x, task) -> x.ofTask(task, 8));
        Check.within(EdgesOfCallsTest::fullest, "local", 0, 23, INDEX, (x, task) -> x.local(task, 0));
        Check.within(EdgesOfCallsTest::fullest, "thereBy", 0, 23, INDEX, (x, task) -> x.thereBy(task, 1));
        Check.within(EdgesOfCallsTest::fullest, "cancel", 0, 39, INDEX, ScopeRow::cancel);
        Check.within(EdgesOfCallsTest::fullest, "ofScope", 0, 39, INDEX, (x, scope) -> x.ofScope(scope, 0));
        Check.within(EdgesOfCallsTest::fullest, "wouldHit", 0, 39, INDEX, ScopeRow::wouldHit);
        Check.within(EdgesOfCallsTest::fullest, "isClosedBy", 0, 39, INDEX, (x, scope) -> x.isClosedBy(scope, 50));
    }

    /** 8 BODIES of 12 LINES, 24 TASKS in 40 SCOPES. */
    private static ScopeRow fullest() {
        ScopeRow x = new ScopeRow();
        x.room(0, 3);
        x.room(1, 0);
        String[][] bodies = {
            {"ADD 16", "PUT 0", "OPEN 20 12", "SPAWN 1", "LOOP 0 2", "SEND 0", "LOCK 0", "SLEEP 9"},
            {"SHIELD 12", "SEND 0", "LOCK 1", "PICK"}, {"LOCK 1", "PUT 3", "SEND 1"}, {"FAIL 7"}, {"ADD -99", "TAKE 1"},
            {"OPEN 0 12", "OPEN 1 12", "OPEN 9 12", "LOCK 0", "SLEEP 3"}, {}, {"SLEEP 1"}
        };
        for (String[] lines : bodies) {
            int body = Check.write(x, lines);
            for (int i = lines.length; i < 12; i++) {
                x.line(body, 0, 1, 0);
            }
        }
        Check.starts(x, 0, 2, 3, 4, 5, 6, 5);
        x.run(50);
        return x;
    }

    private static void whats() {
        Check.begin("what is not 0 to ...");
        List<Supplier<ScopeRow>> makes = List.of(EdgesOfCallsTest::busy, EdgesOfCallsTest::fullest);
        for (Supplier<ScopeRow> make : makes) {
            Check.within(make, "what of ofTask", 0, 8, ARGUMENT, (x, what) -> x.ofTask(0, what));
            Check.within(make, "what of ofScope", 0, 8, ARGUMENT, (x, what) -> x.ofScope(1, what));
            Check.within(make, "what of many", 0, 12, ARGUMENT, ScopeRow::many);
            for (int number = 0; number < 2; number++) {
                int of = number;
                Check.within(make, "what of ofLock", 0, 3, ARGUMENT, (x, what) -> x.ofLock(of, what));
                Check.within(make, "what of ofChannel", 0, 6, ARGUMENT, (x, what) -> x.ofChannel(of, what));
            }
        }
    }

    private static void locals() {
        Check.begin("local: no such TASK, or LOCAL");
        Check.within(EdgesOfCallsTest::busy, "local", 0, 3, INDEX, (x, local) -> x.local(0, local));
        Check.within(EdgesOfCallsTest::busy, "local", 0, 3, INDEX, (x, local) -> x.local(2, local));
    }

    private static void locksAndChannels() {
        Check.begin("no such LOCK, no such CHANNEL");
        Check.within(EdgesOfCallsTest::busy, "ofLock", 0, 1, INDEX, (x, lock) -> x.ofLock(lock, 3));
        Check.within(EdgesOfCallsTest::busy, "ofChannel", 0, 1, INDEX, (x, channel) -> x.ofChannel(channel, 6));
        Check.within(ScopeRow::new, "ofLock", 0, 1, INDEX, (x, lock) -> x.ofLock(lock, 0));
        Check.within(ScopeRow::new, "ofChannel", 0, 1, INDEX, (x, channel) -> x.ofChannel(channel, 0));
        Check.within(ScopeRow::new, "room", 0, 1, INDEX, (x, channel) -> x.room(channel, 0));
    }

    private static void twoNumbersWrong() {
        Check.begin("overBy: ticks and turns");
        for (int ticks : new int[] {0, 21, Integer.MIN_VALUE, Integer.MAX_VALUE}) {
            for (int turns : new int[] {0, 51, Integer.MIN_VALUE, Integer.MAX_VALUE}) {
                ScopeRow x = busy();
                Check.argument(x, "overBy " + ticks + ", " + turns, () -> x.overBy(ticks, turns));
            }
        }
    }

    private static void firstNamedFirst() {
        Check.begin("If several exceptions apply, the one that is named first is thrown");
        ScopeRow x = busy();
        for (int number : BEYOND) {
            Check.index(x, "line: body, kind", () -> x.line(number, 19, 0, 0));
            Check.index(x, "line: body, a", () -> x.line(number, 0, 100, 0));
            Check.index(x, "room: channel, room, task", () -> x.room(number, 4));
            Check.index(x, "ofTask", () -> x.ofTask(number, 9));
            Check.index(x, "local", () -> x.local(number, 4));
            Check.index(x, "ofScope", () -> x.ofScope(number, -1));
            Check.index(x, "ofLock", () -> x.ofLock(number, 4));
            Check.index(x, "ofChannel", () -> x.ofChannel(number, 7));
            Check.index(x, "isClosedBy", () -> x.isClosedBy(number, 0));
            Check.index(x, "thereBy", () -> x.thereBy(number, 51));
        }
        Check.argument(x, "line: kind, task", () -> x.line(0, 19, 0, 0));
        Check.argument(x, "line: a, task", () -> x.line(0, 0, 100, 0));
        Check.argument(x, "line: b, task", () -> x.line(0, 0, 0, 1));
        Check.argument(x, "room: room, task", () -> x.room(0, 4));
        Check.argument(x, "room: room, task", () -> x.room(1, -1));
        Check.state(x, "line: task", () -> x.line(0, 0, 0, 0));
        ScopeRow y = fullest();
        Check.index(y, "start: body, 24 tasks", () -> y.start(8));
        Check.index(y, "line: body, twelve lines", () -> y.line(8, 0, 0, 0));
        Check.argument(y, "line: a, twelve lines, no task", () -> y.line(7, 0, -100, 0));
        Check.state(y, "line: twelve lines, no task", () -> y.line(7, 0, 0, 0));
        Check.state(y, "line: twelve lines and a task", () -> y.line(0, 0, 0, 0));
        Check.state(y, "a 25th task", () -> y.start(7));
        Check.state(y, "a ninth body", y::body);
    }

    /** Of two objects told the same calls one is told, between these, all that is refused. */
    private static void refusedAllAlong() {
        Check.begin("A method that throws an exception changes nothing");
        List<Supplier<ScopeRow>> makes = List.of(ScopeRow::new, EdgesOfCallsTest::quiet, EdgesOfCallsTest::busy,
            EdgesOfCallsTest::endless, EdgesOfCallsTest::fullest);
        for (Supplier<ScopeRow> make : makes) {
            for (int i = 0; i < 6; i++) {
                ScopeRow x = make.get();
                ScopeRow plain = make.get();
                for (int step = 0; step < i; step++) {
                    refuseAll(x);
                    Check.due("run", x.run(2), plain.run(2));
                    refuseAll(x);
                    Check.due("tick", x.tick(1), plain.tick(1));
                }
                refuseAll(x);
                Check.due("behind all that was refused", Check.later(x), Check.later(plain));
            }
        }
    }

    private static void refuseAll(ScopeRow x) {
        int tasks = x.many(1);
        int scopes = x.many(7);
        List<Runnable> index = new ArrayList<>();
        index.add(() -> x.line(x.many(0), 0, 0, 0));
        index.add(() -> x.room(2, 0));
        index.add(() -> x.start(x.many(0)));
        index.add(() -> x.cancel(scopes));
        index.add(() -> x.ofTask(tasks, 0));
        index.add(() -> x.local(tasks, 0));
        index.add(() -> x.ofScope(scopes, 0));
        index.add(() -> x.wouldHit(scopes));
        index.add(() -> x.isClosedBy(scopes, 1));
        index.add(() -> x.thereBy(tasks, 1));
        List<Runnable> argument = new ArrayList<>();
        argument.add(() -> x.run(0));
        argument.add(() -> x.run(51));
        argument.add(() -> x.tick(0));
        argument.add(() -> x.tick(21));
        argument.add(() -> x.room(0, 4));
        argument.add(() -> x.overBy(1, 51));
        argument.add(() -> x.overBy(21, 1));
        argument.add(() -> x.many(13));
        if (x.many(0) > 0) {
            argument.add(() -> x.line(x.many(0) - 1, 18, 0, 1));
        }
        List<Runnable> state = new ArrayList<>();
        if (tasks > 0) {
            state.add(() -> x.room(1, 2));
            state.add(() -> x.line(x.ofTask(0, 0), 0, 1, 0));
        }
        if (tasks == 24) {
            state.add(() -> x.start(0));
        }
        if (x.many(0) == 8) {
            state.add(x::body);
        }
        thrown(INDEX, index);
        thrown(ARGUMENT, argument);
        thrown(STATE, state);
    }

    private static void thrown(Class<?> kind, List<Runnable> calls) {
        for (Runnable call : calls) {
            Check.yes(kind.getSimpleName(), Check.thrownBy(call) == kind);
        }
    }

    private static void lastCallOfAll() {
        Check.begin("An object is used for at most 512 calls after it has been made");
        ScopeRow x = Check.with(Check.lines("SLEEP 9"));
        x.start(0);
        for (int call = 4; call <= 511; call++) {
            x.tick(20);
        }
        Check.due("now, asked by the 512th call", x.many(10), 508 * 20);

        // Each call does 50 turns.
        ScopeRow y = endless();
        int before = 2 + 7 + 5 + 2 + 2;
        int turns = 0;
        for (int call = before + 1; call <= 511; call++) {
            turns += y.run(50);
        }
        Check.due("none of them fewer", turns, (511 - before) * 50);
        Check.due("turns, asked by the 512th call", y.many(11), turns);
        ScopeRow z = busy();
        long due = busy().digest();
        int told = 4 + 6 + 3 + 3 + 1 + 1 + 2 + 1;
        for (int call = told + 1; call <= 511; call++) {
            z.overBy(20, 50);
        }
        Check.due("digest, the 512th call", z.digest(), due);
    }

    private static void noTaskForAMean() {
        Check.begin("the mean number of LINES that a TASK began, not cut; 0 without any");
        ScopeRow x = Check.with(Check.lines("ADD 1", "ADD 1"), Check.lines());
        Check.due("without a task", x.meanLines(), 0.0);
        x.start(1);
        Check.due("one without a line", x.meanLines(), 0.0);
        ScopeRow y = Check.with(Check.lines("ADD 1", "ADD 1"));
        y.start(0);
        y.run(1);
        Check.due("2 of 1", y.meanLines(), 2.0);
        x.start(0);
        x.run(50);
        Check.due("2 of 2", x.meanLines(), 1.0);
        for (int tasks = 3; tasks <= 24; tasks++) {
            x.start(1);
            Check.due("2 of " + tasks, x.meanLines(), 2.0 / tasks);
        }
    }

    private static void mostLines() {
        ScopeRow x = Check.with(Check.lines("ADD 99", "PUT 0", "LOOP 0 2"));
        for (int i = 0; i < 24; i++) {
            x.start(0);
        }
        x.run(50);
        Check.due("100 of each", x.meanLines(), 100.0);
        Check.due("lines", x.many(12), 2400);
        Check.due("all failed", x.many(5), 24);
    }

    private static void stuckAtItsEdges() {
        Check.begin("none is READY, none SLEEPS, and no SCOPE that is not CLOSED has a DEADLINE above NOW");
        ScopeRow x = Check.with(Check.lines("OPEN 2 12", "SPAWN 1", "SHUT"), Check.lines("SHIELD 12", "TAKE 0"));
        x.start(0);
        Check.due("one is ready", x.stuck(), 0);
        x.run(2);
        Check.due("two above now", x.stuck(), 0);
        x.tick(1);
        Check.due("one above now", x.stuck(), 0);
        x.cancel(0);
        Check.due("cancelled, still one above now", x.stuck(), 0);
        x.tick(1);
        Check.due("now", x.stuck(), 2);
        x.tick(1);
        Check.due("one below now", x.stuck(), 2);
        x.start(1);
        Check.due("one is ready", x.stuck(), 0);
        x.run(1);
        Check.due("all that wait", x.stuck(), 3);

        ScopeRow y = Check.with(Check.lines("SLEEP 1"), Check.lines("TAKE 0"), Check.lines("OPEN 9 2", "SHUT", "TAKE 0"));
        Check.starts(y, 1, 2);
        y.run(2);
        Check.due("a deadline of a closed one", y.stuck(), 2);
        y.start(0);
        y.run(1);
        Check.due("one sleeps", y.stuck(), 0);
        y.tick(1);
        Check.due("it is ready", y.stuck(), 0);
        y.run(1);
        Check.due("it is over", y.stuck(), 2);
    }

    private static void wouldHitAtItsEdges() {
        Check.begin("how many TASKS would become HIT (that are not HIT, and not OVER)");
        ScopeRow x = Check.with(Check.lines("OPEN 0 12", "SPAWN 1", "SPAWN 2", "SPAWN 1", "OPEN 0 12", "SHUT", "SHUT"),
            Check.lines("TAKE 0"), Check.lines());
        x.start(0);
        Check.index(x, "no scope", () -> x.wouldHit(0));
        x.run(1);
        Check.due("its opener and the three in it", x.wouldHit(0), 4);
        Check.due("of the inner one: none but its opener", x.wouldHit(1), 0);
        x.run(50);
        Check.due("one is over", x.wouldHit(0), 3);
        x.cancel(0);
        Check.due("all are hit", x.wouldHit(0), 0);
        x.run(50);
        Check.due("all are over", x.wouldHit(0), 0);
    }

    private static void closedByItsLastTurn() {
        Check.begin("whether it would be CLOSED behind these, if it was CANCELLED now");
        for (int others = 0; others <= 23; others++) {
            String[] many = {"ADD " + (others - 1), "PUT 0", "OPEN 0 12", "SPAWN 1", "LOOP 0 3", "SHUT"};
            String[] none = {"OPEN 0 12", "TAKE 0"};
            ScopeRow x = Check.with(others > 0 ? many : none, Check.lines("TAKE 0"));
            x.start(0);
            x.run(50);
            int due = Math.max(1, others);
            if (due > 1) {
                Check.no("a turn ahead", x.isClosedBy(0, due - 1));
            }
            Check.yes("closed", x.isClosedBy(0, due));
            Check.yes("closed behind more", x.isClosedBy(0, 50));
            Check.due("nothing is cancelled", x.many(9), 0);
            Check.due("as it is: not closed", x.run(50) + x.ofScope(0, 1), others > 0 ? 1 : 0);
            x.cancel(0);
            x.run(50);
            Check.yes("closed already", x.isClosedBy(0, 1));
        }
    }

    private static void digestWraps() {
        Check.begin("d becomes d * 31 + v, which wraps around as a 64-bit integer");
        List<Supplier<ScopeRow>> makes = List.of(ScopeRow::new, EdgesOfCallsTest::quiet, EdgesOfCallsTest::busy,
            EdgesOfCallsTest::endless, EdgesOfCallsTest::fullest);
        int wrapped = 0;
        int negative = 0;
        for (Supplier<ScopeRow> make : makes) {
            ScopeRow x = make.get();
            for (int i = 0; i < 8; i++) {
                BigInteger whole = wholeDigest(make.get(), i);
                Check.due("digest", x.digest(), whole.longValue());
                wrapped += whole.bitLength() > 64 ? 1 : 0;
                negative += whole.longValue() < 0 ? 1 : 0;
                x.run(1);
                x.tick(1);
            }
        }
        Check.due("all wrapped around", wrapped, 40);
        Check.yes("some to a negative one", negative > 0);
        Check.yes("some to a positive one", negative < 40);
    }

    /** The checksum without any bound, by asking an object to which as many turns and ticks happened. */
    private static BigInteger wholeDigest(ScopeRow x, int steps) {
        for (int i = 0; i < steps; i++) {
            x.run(1);
            x.tick(1);
        }
        BigInteger d = BigInteger.valueOf(7614);
        for (int v : asked(x)) {
            d = d.multiply(BigInteger.valueOf(31)).add(BigInteger.valueOf(v));
        }
        return d;
    }

    private static List<Integer> asked(ScopeRow x) {
        List<Integer> all = new ArrayList<>();
        for (int what = 0; what <= 12; what++) {
            all.add(x.many(what));
        }
        for (int task = 0; task < x.many(1); task++) {
            for (int what = 0; what <= 8; what++) {
                all.add(x.ofTask(task, what));
            }
            for (int local = 0; local <= 3; local++) {
                all.add(x.local(task, local));
            }
        }
        for (int scope = 0; scope < x.many(7); scope++) {
            for (int what = 0; what <= 8; what++) {
                all.add(x.ofScope(scope, what));
            }
            all.add(x.wouldHit(scope));
        }
        for (int lock = 0; lock <= 1; lock++) {
            for (int what = 0; what <= 3; what++) {
                all.add(x.ofLock(lock, what));
            }
        }
        for (int channel = 0; channel <= 1; channel++) {
            for (int what = 0; what <= 6; what++) {
                all.add(x.ofChannel(channel, what));
            }
        }
        all.add(x.stuck());
        all.add(x.overBy(1, 10));
        all.add(x.overBy(5, 10));
        return all;
    }

    /** One TASK is over by the turn before, by, or behind that up to which the digest asks. */
    private static void digestAtItsTurns() {
        Check.begin("digest: overBy() of 1 and 10, and of 5 and 10");
        for (int in : new int[] {9, 10, 11, 12, 48, 49, 50, 51, 52}) {
            ScopeRow x = overIn(in);
            Check.due("over behind a tick and 10", x.overBy(1, 10), in <= 10 ? 1 : 0);
            Check.due("over behind 5 ticks and 10 each", x.overBy(5, 10), in <= 50 ? 1 : 0);
            Check.due("digest, one is over in " + in, x.digest(), wholeDigest(overIn(in), 0).longValue());
        }
    }

    private static void digestOfTheFullest() {
        Check.begin("digest: TASK by TASK, SCOPE by SCOPE, of none and of all");
        Check.due("of a new object", asked(new ScopeRow()).size(), 13 + 8 + 14 + 3);
        ScopeRow x = fullest();
        Check.due("bodies", x.many(0), 8);
        Check.due("tasks", x.many(1), 24);
        Check.due("scopes", x.many(7), 40);
        // Of the new one each v is 0, but the LOCKS' NONE and the CHANNELS' ROOM of 1.
        BigInteger d = BigInteger.valueOf(7614);
        int[] values = {0, 0, 0, 0, 0, 0, 0, 0, 0, 0, 0, 0, 0, -1, 0, -1, 0, -1, 0, -1, 0,
            1, 0, 0, 0, 0, 0, 0, 1, 0, 0, 0, 0, 0, 0, 0, 0, 0};
        for (int v : values) {
            d = d.multiply(BigInteger.valueOf(31)).add(BigInteger.valueOf(v));
        }
        Check.due("of a new object", new ScopeRow().digest(), d.longValue());
    }
}
