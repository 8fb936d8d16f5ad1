/** Promise 6, sections 1 and 4: the plain lines, and turns. */
final class LinesTest {
    private LinesTest() {
    }

    static void all() {
        Check.begin("promise 6, section 1");
        plainLines();
        heldToBounds();
        whereNoLineIs();
        Check.begin("promise 6, turns");
        turns();
        hundredLines();
        hundredLinesAndNoMore();
    }

    private static void plainLines() {
        Check.due("no line", Check.alone(), 200);
        Check.due("ADD", Check.alone("ADD 5", "ADD -7"), 198);
        Check.due("GET of what was never put", Check.alone("ADD 5", "GET 3"), 200);
        Check.due("PUT and GET", Check.alone("ADD 5", "PUT 3", "ADD 1", "PUT 0", "GET 3"), 205);
        Check.due("RETURN", Check.alone("ADD 5", "RETURN", "ADD 1"), 205);
        Check.due("FAIL", Check.alone("ADD 5", "FAIL 7", "ADD 1"), 307);
        Check.due("SKIP of 0", Check.alone("SKIP 2", "ADD 1", "ADD 2"), 202);
        Check.due("SKIP of -1", Check.alone("ADD -1", "SKIP 3", "ADD 1", "ADD 2"), 201);
        Check.due("SKIP of 1", Check.alone("ADD 1", "SKIP 3", "ADD 1", "ADD 2"), 204);
        Check.due("SKIP to the end", Check.alone("SKIP 12", "ADD 1"), 200);
        Check.due("LOOP", Check.alone("ADD 3", "PUT 2", "ADD 5", "LOOP 2 2"), 223);
        Check.due("LOOP to itself", Check.alone("ADD 3", "PUT 2", "LOOP 2 2", "GET 2"), 200);
        Check.due("LOOP of one below 0", Check.alone("ADD -3", "PUT 1", "LOOP 1 0", "GET 1"), 197);
    }

    private static void heldToBounds() {
        String[] up = {"ADD 50", "PUT 0", "GET 1", "ADD 99", "ADD 99", "PUT 1", "LOOP 0 2"};
        Check.due("what is added by 51 rounds of 198, cut by the 100 lines", Check.alone(up), 307);
        ScopeRow x = Check.with(
            Check.lines("ADD 51", "PUT 0", "GET 1", "ADD 99", "ADD 99", "PUT 1", "SLEEP 1", "LOOP 0 2"),
            Check.lines("ADD 51", "PUT 0", "GET 1", "ADD -99", "ADD -99", "PUT 1", "SLEEP 1", "LOOP 0 2"));
        Check.starts(x, 0, 1);
        for (int i = 0; i < 55; i++) {
            x.run(2);
            x.tick(1);
        }
        Check.due("the highest", x.ofTask(0, 3), 9999);
        Check.due("the lowest", x.ofTask(1, 3), -9999);
        Check.due("its local", x.local(1, 1), -9999);
        Check.due("it is returned", x.ofTask(1, 1), 2);
    }

    private static void whereNoLineIs() {
        ScopeRow x = Check.with(Check.lines("ADD 1"), Check.lines());
        Check.starts(x, 0, 1);
        Check.due("turns", x.run(9), 2);
        Check.due("lines begun", x.many(12), 1);
        Check.due("of the empty body", x.ofTask(1, 1), 2);
    }

    private static void turns() {
        ScopeRow x = Check.with(Check.lines("SLEEP 1", "ADD 2"), Check.lines("ADD 1"));
        Check.argument(x, "run 0", () -> x.run(0));
        Check.argument(x, "run -1", () -> x.run(-1));
        Check.argument(x, "run 51", () -> x.run(51));
        Check.starts(x, 0, 1, 0, 1);
        Check.due("place", x.ofTask(2, 6), 2);
        Check.due("run", x.run(2), 2);
        Check.due("place", x.ofTask(2, 6), 0);
        Check.due("place of one that waits", x.ofTask(0, 6), -1);
        Check.due("run", x.run(50), 2);
        Check.due("run", x.run(50), 0);
        Check.due("turns", x.many(11), 4);
        Check.due("returned", x.many(4), 2);
        x.tick(1);
        x.start(1);
        Check.due("behind those that were ready", x.ofTask(4, 6), 2);
        Check.due("run", x.run(50), 3);
        Check.due("what there is", x.ofTask(0, 3), 2);
    }

    private static void hundredLines() {
        // 2 lines, then 49 rounds of 2 are 100: the next LOOP is not begun.
        ScopeRow x = Check.with(Check.lines("ADD 99", "PUT 0", "ADD 1", "LOOP 0 2"));
        x.start(0);
        x.run(1);
        Check.due("failed", x.ofTask(0, 1), 3);
        Check.due("with 7", x.ofTask(0, 3), 7);
        Check.due("lines begun", x.many(12), 100);
        Check.due("left of the loop", x.local(0, 0), 50);

        // The 101st line would be a SLEEP in a cancelled scope: 7 comes ahead of CANCEL.
        ScopeRow y = Check.with(Check.lines("OPEN 0 7", "STOP", "ADD 95", "PUT 0", "LOOP 0 4", "SLEEP 1"));
        y.start(0);
        y.run(1);
        Check.due("failed with 7", y.ofTask(0, 1) * 10 + y.ofTask(0, 3), 37);
        Check.due("lines begun", y.many(12), 100);
        ScopeRow z = Check.with(Check.lines("OPEN 0 7", "STOP", "ADD 94", "PUT 0", "LOOP 0 4", "SLEEP 1"));
        z.start(0);
        z.run(1);
        Check.due("with one line less it goes on", z.ofTask(0, 1) * 10 + z.ofTask(0, 3), 21);

        // A FAIL 7 with a scope whose tasks are not over: it waits at the line that was not begun.
        ScopeRow w = Check.with(Check.lines("OPEN 0 8", "SPAWN 1", "ADD 99", "PUT 0", "LOOP 0 4"),
            Check.lines("SHIELD 3", "SLEEP 9"));
        w.start(0);
        w.run(2);
        Check.due("line", w.ofTask(0, 2), 4);
        Check.due("leaving", w.ofScope(0, 1), 1);
        Check.due("cancelled", w.ofScope(0, 2), 1);
    }

    private static void hundredLinesAndNoMore() {
        // Exactly 100 lines, then no line: a RETURN, as none is begun.
        ScopeRow x = Check.with(Check.lines("ADD 97", "PUT 0", "LOOP 0 2"));
        x.start(0);
        x.run(1);
        Check.due("lines begun", x.many(12), 100);
        Check.due("returned", x.ofTask(0, 1), 2);
        ScopeRow y = Check.with(Check.lines("ADD 98", "PUT 0", "LOOP 0 2"));
        y.start(0);
        y.run(1);
        Check.due("lines begun", y.many(12), 100);
        Check.due("failed", y.ofTask(0, 1), 3);

        // The count begins anew with each turn.
        ScopeRow z = Check.with(Check.lines("ADD 96", "PUT 0", "LOOP 0 2", "SLEEP 1", "ADD -20", "PUT 0", "LOOP 0 6"));
        z.start(0);
        z.run(1);
        Check.due("lines begun", z.many(12), 100);
        z.tick(1);
        z.run(1);
        Check.due("returned", z.ofTask(0, 1), 2);
        Check.due("lines begun", z.many(12), 179);
    }
}
