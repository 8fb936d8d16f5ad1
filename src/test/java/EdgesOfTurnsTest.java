/** Section 4, sentence by sentence: the row, the 100 LINES, LOCKS and CHANNELS that are empty, full, and more than that. */
final class EdgesOfTurnsTest {
    private EdgesOfTurnsTest() {
    }

    static void all() {
        emptyRow();
        fullRow();
        fullRowByCancel();
        atItsEnd();
        hundredthLine();
        hundredAndFirstLine();
        hundredAnewWithEachTurn();
        aheadOfCancel();
        sevenCancelsTheInnermost();
        sleepTillNow();
        deadlinesFirst();
        lockThatItHolds();
        lockOfNobody();
        freeWithoutAny();
        lockOfTwentyThree();
        freesAllByNumbers();
        roomOfEachSize();
        roomAtFirst();
        moreThanRoom();
        fullAgainBehindMoreThanRoom();
        twentyFiveInRoomOfThree();
        twentyFourWithAValue();
        twentyFourForAValue();
        pickOfEach();
        endOfEmpty();
        endOfFull();
        endOfWaiting();
        givenBackBehindEnd();
        givenBackToTheFirst();
        lockGivenBack();
        valueGone();
    }

    private static void emptyRow() {
        Check.begin("TASKS are READY in a row: an empty one");
        ScopeRow x = Check.with(Check.lines("TAKE 0"));
        Check.due("without a task", x.run(50), 0);
        x.start(0);
        Check.due("one", x.run(50), 1);
        Check.due("one that waits", x.run(50), 0);
        Check.due("its place", x.ofTask(0, 6), -1);
        Check.due("turns", x.many(11), 1);
        Check.due("ready", x.many(2), 0);
    }

    private static void fullRow() {
        Check.begin("TASKS are READY in a row: all 24");
        ScopeRow x = Check.with(Check.lines("SLEEP 1", "SLEEP 2"));
        for (int i = 0; i < 24; i++) {
            x.start(0);
        }
        Check.due("ready", x.many(2), 24);
        Check.due("the first", x.ofTask(0, 6), 0);
        Check.due("the last", x.ofTask(23, 6), 23);
        Check.due("one turn", x.run(1), 1);
        Check.due("taken off", x.ofTask(0, 6), -1);
        Check.due("the last", x.ofTask(23, 6), 22);
        Check.due("the others", x.run(50), 23);
        Check.due("all ready by a tick", x.tick(1), 24);
        for (int i = 0; i < 24; i++) {
            Check.due("by numbers", x.ofTask(i, 6), i);
        }
        Check.due("all", x.run(24), 24);
        Check.due("a tick ahead", x.tick(1), 0);
        Check.due("ready", x.tick(1), 24);
        Check.due("all but one", x.run(23), 23);
        Check.due("the last is the first", x.ofTask(23, 6), 0);
        Check.due("it alone", x.run(24), 1);
        Check.due("returned", x.many(4), 24);
    }

    private static void fullRowByCancel() {
        ScopeRow x = Check.with(Check.lines("ADD 22", "PUT 0", "OPEN 0 12", "SPAWN 1", "LOOP 0 3", "TAKE 1"),
            Check.lines("TAKE 1"));
        x.start(0);
        Check.due("turns", x.run(50), 24);
        Check.due("all wait", x.stuck(), 24);
        Check.yes("cancel", x.cancel(0));
        for (int i = 0; i < 24; i++) {
            Check.due("by numbers", x.ofTask(i, 6), i);
        }
        Check.due("ready", x.many(2), 24);
        Check.due("not stuck", x.stuck(), 0);
        Check.due("the opener waits, 23 are dropped, it is done", x.run(50), 25);
        Check.due("dropped", x.many(6), 23);
    }

    private static void atItsEnd() {
        Check.begin("a TASK that is started or SPAWNED is put at its end");
        ScopeRow x = Check.with(Check.lines("OPEN 0 12", "SPAWN 1", "SPAWN 1", "SHUT"), Check.lines("SLEEP 1"));
        Check.starts(x, 0, 0, 1);
        x.run(1);
        Check.due("places", x.ofTask(1, 6) * 1000 + x.ofTask(2, 6) * 100 + x.ofTask(3, 6) * 10 + x.ofTask(4, 6), 123);
        x.start(1);
        Check.due("place", x.ofTask(5, 6), 4);
    }

    /** A TASK in whose first turn a last LINE is number lines + 2: three are ahead, and lines - 2 of LOOP. */
    private static ScopeRow behindLines(int lines, String last) {
        ScopeRow x = Check.with(Check.lines("SEND 1", "ADD " + (lines - 3), "PUT 0", "LOOP 0 3", last, "ADD 5"));
        x.start(0);
        x.run(1);
        return x;
    }

    private static void hundredthLine() {
        Check.begin("To begin a LINE behind 100 LINES of one turn is FAIL 7: the 100th is begun");
        ScopeRow x = behindLines(98, "FAIL 2");
        Check.due("the 100th, a FAIL", x.ofTask(0, 1) * 10 + x.ofTask(0, 3), 32);
        Check.due("lines begun", x.many(12), 100);
        ScopeRow y = behindLines(98, "RETURN");
        Check.due("the 100th, a RETURN", y.ofTask(0, 1) * 1000 + y.ofTask(0, 3), 2095);
        Check.due("lines begun", y.many(12), 100);
        ScopeRow z = behindLines(98, "SLEEP 1");
        Check.due("the 100th, a SLEEP", z.ofTask(0, 8), 1);
        Check.due("lines begun", z.many(12), 100);
        z.tick(1);
        z.run(1);
        Check.due("on in another turn", z.ofTask(0, 1) * 1000 + z.ofTask(0, 3), 2100);
        ScopeRow w = behindLines(98, "SKIP 12");
        Check.due("the 100th, and one more", w.ofTask(0, 1) * 10 + w.ofTask(0, 3), 37);
        Check.due("lines begun", w.many(12), 100);
        ScopeRow v = behindLines(97, "GET 1");
        Check.due("the 99th and the 100th, then none", v.ofTask(0, 1) * 10 + v.ofTask(0, 3), 25);
        Check.due("lines begun", v.many(12), 100);
    }

    private static void hundredAndFirstLine() {
        Check.begin("To begin a LINE behind 100 LINES of one turn is FAIL 7: the 101st");
        String[] lines = {"ADD 1", "GET 0", "PUT 1", "LOOP 1 0", "SKIP 12", "RETURN", "FAIL 2", "OPEN 0 12", "SHIELD 12",
            "SHUT", "SPAWN 0", "STOP", "SLEEP 1", "LOCK 0", "FREE 0", "SEND 0", "TAKE 0", "END 0", "PICK"};
        for (String line : lines) {
            ScopeRow x = behindLines(99, line);
            Check.due("instead of " + line, x.ofTask(0, 1) * 10 + x.ofTask(0, 3), 37);
            Check.due("lines begun ahead of " + line, x.many(12), 100);
            Check.due("scopes", x.many(7), 0);
            Check.due("what was put", x.local(0, 1), 0);
            Check.due("lock", x.ofLock(0, 3), 0);
            Check.due("channels", x.ofChannel(0, 1) * 100 + x.ofChannel(0, 5) * 10 + x.ofChannel(1, 6), 0);
        }
        ScopeRow y = behindLines(102, "ADD 1");
        Check.due("a LOOP", y.ofTask(0, 3) * 100 + y.many(12), 800);
        Check.due("left of it", y.local(0, 0), 2);
    }

    private static void hundredAnewWithEachTurn() {
        Check.begin("100 LINES of one turn");
        for (int more = 0; more < 2; more++) {
            ScopeRow x = Check.with(Check.lines("SLEEP 1", "ADD 97", "PUT 0", "LOOP 0 3", more == 0 ? "GET 1" : "SLEEP 1",
                "ADD 1", "ADD 1"));
            x.start(0);
            x.run(1);
            x.tick(1);
            x.run(1);
            // 2, 98 of LOOP, and then the 101st of this turn; the SLEEP was one of the turn before.
            Check.due("lines begun", x.many(12), 101);
            Check.due("failed with 7", x.ofTask(0, 1) * 10 + x.ofTask(0, 3), 37);
        }
        ScopeRow y = Check.with(Check.lines("SLEEP 1", "ADD 96", "PUT 0", "LOOP 0 3", "SLEEP 1",
            "ADD -1", "PUT 0", "LOOP 0 7", "ADD 1"));
        y.start(0);
        y.run(1);
        y.tick(1);
        y.run(1);
        Check.due("the 100th is a wait", y.ofTask(0, 8) * 1000 + y.many(12), 1101);
        y.tick(1);
        y.run(1);
        Check.due("95, 96 of LOOP and 3 are 99", y.ofTask(0, 1) * 1000 + y.ofTask(0, 3), 2096);
        Check.due("lines begun", y.many(12), 200);

        // Two turns of two TASKS: the LINES of one are none of the other's.
        ScopeRow z = Check.with(Check.lines("ADD 60", "PUT 0", "LOOP 0 2"));
        Check.starts(z, 0, 0, 0);
        z.run(3);
        Check.due("all returned", z.many(4), 3);
        Check.due("lines begun", z.many(12), 189);
    }

    private static void aheadOfCancel() {
        Check.begin("(ahead of CANCEL; it is not begun)");
        String[] waits = {"SLEEP 1", "LOCK 0", "SEND 0", "TAKE 0", "PICK"};
        for (String wait : waits) {
            // Four, and 95, 96 or 97 of LOOP; behind CANCEL there is no LINE, thus a RETURN.
            int[] due = {21, 21, 37, 37};
            for (int i = 0; i < 4; i++) {
                ScopeRow x = Check.with(Check.lines("OPEN 0 12", "STOP", "ADD " + (93 + i), "PUT 0", "LOOP 0 4", wait));
                x.start(0);
                x.run(1);
                Check.due("the wait is number " + (99 + i), x.ofTask(0, 1) * 10 + x.ofTask(0, 3), due[i]);
                Check.due("lines begun", x.many(12), Math.min(99 + i, 100));
            }
        }
        // A CANCEL at the 100th goes on, but no LINE is begun any more.
        for (int i = 0; i < 2; i++) {
            ScopeRow y = Check.with(Check.lines("OPEN 0 6", "STOP", "ADD " + (93 + i), "PUT 0", "LOOP 0 4", "TAKE 0", "FAIL 3"));
            y.start(0);
            y.run(1);
            Check.due("the wait is number " + (99 + i), y.ofTask(0, 1) * 10 + y.ofTask(0, 3), i == 0 ? 33 : 37);
            Check.due("lines begun", y.many(12), 100);
        }
    }

    private static void sevenCancelsTheInnermost() {
        Check.begin("FAIL 7 with SCOPES on the STACK");
        ScopeRow x = Check.with(Check.lines("OPEN 0 12", "SPAWN 1", "OPEN 0 12", "SPAWN 1", "ADD 93", "PUT 0", "LOOP 0 6",
            "ADD 1"), Check.lines("TAKE 0"));
        x.start(0);
        x.run(1);
        Check.due("100 lines, then the LOOP again", x.many(12), 100);
        Check.due("waits at that line", x.ofTask(0, 8) * 10 + x.ofTask(0, 2), 56);
        Check.due("cancelled", x.ofScope(0, 2) * 10 + x.ofScope(1, 2), 1);
        Check.due("left of 95 behind 94 rounds", x.local(0, 0), 1);
        x.run(50);
        Check.due("failed with 7", x.ofTask(0, 1) * 10 + x.ofTask(0, 3), 37);
        Check.due("both dropped", x.many(6), 2);
    }

    private static void sleepTillNow() {
        Check.begin("SLEEP: it WAITS till NOW is a more");
        for (int a = 1; a <= 9; a++) {
            for (int now = 0; now <= 20; now += 20) {
                ScopeRow x = Check.with(Check.lines("SLEEP " + a, "ADD 1"));
                if (now > 0) {
                    x.tick(now);
                }
                x.start(0);
                x.run(1);
                if (a > 1) {
                    Check.due("ready one tick ahead", x.tick(a - 1), 0);
                }
                Check.due("it sleeps", x.ofTask(0, 8), 1);
                Check.due("ready", x.tick(1), 1);
                Check.due("now", x.many(10), now + a);
                Check.due("ready", x.ofTask(0, 6), 0);
                Check.due("ready again", x.tick(1), 0);
                Check.due("a turn", x.run(50), 1);
                Check.due("returned", x.ofTask(0, 1) * 10 + x.ofTask(0, 3), 21);
            }
        }
    }

    private static void deadlinesFirst() {
        Check.begin("first SCOPES by numbers whose DEADLINE it is are CANCELLED, then TASKS whose SLEEP is over");
        ScopeRow x = Check.with(Check.lines("SLEEP 2"), Check.lines("OPEN 2 12", "SLEEP 2"), Check.lines("OPEN 2 12", "TAKE 0"));
        Check.starts(x, 0, 2, 0, 1);
        x.run(9);
        Check.due("a tick ahead", x.tick(1), 0);
        Check.due("each once", x.tick(1), 4);
        Check.due("the one of scope 0", x.ofTask(1, 6), 0);
        Check.due("the one of scope 1, whose sleep is over, too", x.ofTask(3, 6), 1);
        Check.due("sleepers", x.ofTask(0, 6) * 10 + x.ofTask(2, 6), 23);

        // By the numbers of the SCOPES, not by those of the TASKS.
        ScopeRow y = Check.with(Check.lines("SLEEP 1", "OPEN 1 12", "TAKE 0"), Check.lines("OPEN 2 12", "TAKE 0"));
        Check.starts(y, 0, 1);
        y.run(9);
        y.tick(1);
        y.run(9);
        Check.due("ready", y.tick(1), 2);
        Check.due("scope 0 is the second one's", y.ofTask(1, 6) * 10 + y.ofTask(0, 6), 1);
    }

    private static void lockThatItHolds() {
        Check.begin("LOCK: FAIL 4, if it holds that");
        for (int lock = 0; lock < 2; lock++) {
            int other = 1 - lock;
            Check.due("once", Check.alone("LOCK " + lock, "ADD 1"), 201);
            Check.due("twice", Check.alone("LOCK " + lock, "LOCK " + lock), 304);
            Check.due("the other", Check.alone("LOCK " + lock, "LOCK " + other, "ADD 1"), 201);
            Check.due("FREE, not held", Check.alone("FREE " + lock), 304);
            Check.due("FREE, once more", Check.alone("LOCK " + lock, "FREE " + lock, "FREE " + lock), 304);
            Check.due("FREE of the other", Check.alone("LOCK " + lock, "FREE " + other), 304);
            Check.due("again behind FREE", Check.alone("LOCK " + lock, "FREE " + lock, "LOCK " + lock, "ADD 1"), 201);
        }
        ScopeRow x = Check.with(Check.lines("LOCK 1", "LOCK 1"));
        x.start(0);
        x.run(1);
        Check.due("held once, and freed as it failed", x.ofLock(1, 3) * 10 + x.ofLock(1, 0), 9);
    }

    private static void lockOfNobody() {
        Check.begin("if nobody holds it, it does; if somebody does, it WAITS");
        ScopeRow x = Check.with(Check.lines("LOCK 0", "TAKE 0"), Check.lines("LOCK 0", "TAKE 0"));
        Check.due("nobody", x.ofLock(0, 0), -1);
        Check.due("none waits", x.ofLock(0, 1), 0);
        Check.due("no first one", x.ofLock(0, 2), -1);
        Check.starts(x, 0, 1);
        x.run(1);
        Check.due("task 0", x.ofLock(0, 0), 0);
        Check.due("it waits for a value", x.ofTask(0, 8), 4);
        x.run(1);
        Check.due("still", x.ofLock(0, 0), 0);
        Check.due("one waits", x.ofLock(0, 1) * 10 + x.ofLock(0, 2), 11);
        Check.due("for a lock", x.ofTask(1, 8), 2);
        Check.due("held once", x.ofLock(0, 3), 1);
    }

    private static void freeWithoutAny() {
        Check.begin("FREE: the first of those who WAIT for it holds it, and is READY; nobody without any");
        ScopeRow x = Check.with(Check.lines("LOCK 0", "FREE 0", "SLEEP 1"), Check.lines("LOCK 0", "SLEEP 1", "FREE 0", "SLEEP 1"),
            Check.lines("LOCK 0", "SLEEP 9"));
        x.start(0);
        x.run(1);
        Check.due("nobody", x.ofLock(0, 0), -1);
        Check.due("held once", x.ofLock(0, 3), 1);
        Check.due("nobody is ready by that", x.many(2), 0);
        Check.starts(x, 1, 2);
        x.run(2);
        x.tick(1);
        Check.due("the row", x.ofTask(0, 6) * 10 + x.ofTask(1, 6), 1);
        x.run(2);
        Check.due("the one", x.ofLock(0, 0), 2);
        Check.due("ready", x.ofTask(2, 6), 0);
        Check.due("none waits", x.ofLock(0, 1), 0);
        Check.due("it waits no more", x.ofTask(2, 8), 0);
        Check.due("held, with its turn ahead", x.ofLock(0, 3), 3);
    }

    private static void lockOfTwentyThree() {
        ScopeRow x = Check.with(Check.lines("LOCK 1", "SLEEP 1"), Check.lines("LOCK 1"));
        x.start(0);
        for (int i = 1; i < 24; i++) {
            x.start(1);
        }
        Check.due("turns", x.run(50), 24);
        Check.due("wait", x.ofLock(1, 1), 23);
        x.tick(1);
        for (int i = 0; i < 24; i++) {
            Check.due("holder", x.ofLock(1, 0), i);
            Check.due("wait", x.ofLock(1, 1), 23 - i);
            Check.due("first", x.ofLock(1, 2), i < 23 ? i + 1 : -1);
            Check.due("held", x.ofLock(1, 3), i + 1);
            Check.due("a turn", x.run(1), 1);
        }
        Check.due("nobody", x.ofLock(1, 0), -1);
        Check.due("held", x.ofLock(1, 3), 24);
    }

    private static void freesAllByNumbers() {
        Check.begin("A TASK that is OVER FREES all that it holds, by numbers");
        String[][] ways = {{"RETURN", "20"}, {"FAIL 5", "35"}, {"ADD 0", "20"}};
        for (String[] way : ways) {
            ScopeRow x = Check.with(Check.lines("LOCK 1", "LOCK 0", "SLEEP 1", way[0]), Check.lines("LOCK 1", "SLEEP 9"),
                Check.lines("LOCK 0", "SLEEP 9"));
            Check.starts(x, 0, 1, 2);
            x.run(3);
            x.tick(1);
            x.run(1);
            Check.due("over", x.ofTask(0, 1) * 10 + x.ofTask(0, 3), Integer.parseInt(way[1]));
            Check.due("holders", x.ofLock(0, 0) * 10 + x.ofLock(1, 0), 21);
            Check.due("the one of lock 0 first", x.ofTask(2, 6) * 10 + x.ofTask(1, 6), 1);
        }
    }

    private static final String[] FIVE_SENDS = {
        "ADD 1", "SEND 0", "ADD 1", "SEND 0", "ADD 1", "SEND 0", "ADD 1", "SEND 0", "ADD 1", "SEND 0"
    };

    private static void roomOfEachSize() {
        Check.begin("A CHANNEL has ROOM for 0 to 3 VALUES");
        for (int room = 0; room <= 3; room++) {
            ScopeRow x = Check.with(FIVE_SENDS, Check.lines("TAKE 0"));
            x.room(0, room);
            x.start(0);
            x.run(1);
            Check.due("full", x.ofChannel(0, 1), room);
            Check.due("the first", x.ofChannel(0, 2), room > 0 ? 1 : 0);
            Check.due("one waits with the next", x.ofChannel(0, 3), 1);
            Check.due("at its line", x.ofTask(0, 2), 2 * room + 1);
            Check.due("there is", x.ofTask(0, 3), room + 1);
            for (int i = 1; i <= 5; i++) {
                x.start(1);
                x.run(1);
                Check.due("taken", x.ofTask(i, 1) * 10 + x.ofTask(i, 3), 20 + i);
                x.run(1);
                Check.due("in it", x.ofChannel(0, 1), Math.min(room, 5 - i));
                Check.due("waiting", x.ofChannel(0, 3), 5 - i > room ? 1 : 0);
                Check.due("the first", x.ofChannel(0, 2), room > 0 && i < 5 ? i + 1 : 0);
                Check.due("taken ever", x.ofChannel(0, 6), i);
            }
            Check.due("the sender is returned", x.ofTask(0, 1), 2);
            x.start(1);
            x.run(1);
            Check.due("a sixth waits", x.ofTask(6, 8) * 10 + x.ofChannel(0, 4), 41);
            Check.due("taken ever", x.ofChannel(0, 6), 5);
        }
    }

    private static void roomAtFirst() {
        Check.begin("(1 at first)");
        for (int channel = 0; channel < 2; channel++) {
            ScopeRow x = Check.with(Check.lines("ADD 7", "SEND " + channel, "ADD 1", "SEND " + channel));
            Check.due("room", x.ofChannel(channel, 0), 1);
            x.start(0);
            x.run(1);
            Check.due("one is in it, one waits", x.ofChannel(channel, 1) * 10 + x.ofChannel(channel, 3), 11);
            Check.due("the first", x.ofChannel(channel, 2), 7);
            Check.due("nothing in the other", x.ofChannel(1 - channel, 1) + x.ofChannel(1 - channel, 3), 0);
        }
    }

    /** The VALUE 1 was given to one that is CANCELLED, and came back: one more is in it than ROOM, and two WAIT with one. */
    private static ScopeRow overfull(int room) {
        ScopeRow x = Check.with(Check.lines("OPEN 0 12", "TAKE 0"), FIVE_SENDS, Check.lines("TAKE 0"),
            Check.lines("ADD 9", "SEND 0"));
        x.room(0, room);
        Check.starts(x, 0, 1);
        x.run(2);
        Check.due("full", x.ofChannel(0, 1), room);
        Check.due("taken", x.ofChannel(0, 6), 1);
        x.cancel(0);
        x.run(1);
        Check.due("one more than room", x.ofChannel(0, 1), room + 1);
        Check.due("it is the first", x.ofChannel(0, 2), 1);
        Check.due("given back", x.ofChannel(0, 6), 0);
        Check.due("room", x.ofChannel(0, 0), room);
        x.start(3);
        x.run(1);
        Check.due("another one waits", x.ofTask(2, 8), 3);
        Check.due("two wait", x.ofChannel(0, 3), 2);
        return x;
    }

    private static void moreThanRoom() {
        Check.begin("or else is the first one in it (also if that is more than ROOM)");
        int[][] order = {{1, 2, 9, 3, 4, 5}, {1, 2, 3, 9, 4, 5}, {1, 2, 3, 4, 9, 5}, {1, 2, 3, 4, 5, 9}};
        for (int room = 0; room <= 3; room++) {
            ScopeRow x = overfull(room);
            for (int i = 0; i < 6; i++) {
                x.start(2);
                x.run(50);
                Check.due("taken", x.ofTask(3 + i, 3), order[room][i]);
                Check.due("in it", x.ofChannel(0, 1), Math.min(room + 1, 5 - i));
                Check.due("the first", x.ofChannel(0, 2), i < 5 ? order[room][i + 1] : 0);
                Check.due("taken ever", x.ofChannel(0, 6), i + 1);
            }
            Check.due("none waits", x.many(3), 0);
        }
    }

    private static void fullAgainBehindMoreThanRoom() {
        Check.begin("if there are fewer VALUES in it than ROOM, that comes in");
        for (int room = 0; room <= 3; room++) {
            ScopeRow x = overfull(room);
            // All VALUES but as many as ROOM are taken: then a SEND WAITS; one less, and it comes in.
            for (int i = 0; i < 6 - room; i++) {
                x.start(2);
                x.run(50);
            }
            Check.due("full, none waits", x.ofChannel(0, 1) * 10 + x.ofChannel(0, 3), room * 10);
            x.start(3);
            x.run(50);
            Check.due("one waits", x.ofChannel(0, 1) * 10 + x.ofChannel(0, 3), room * 10 + 1);
            x.start(2);
            x.run(50);
            Check.due("full", x.ofChannel(0, 1) * 10 + x.ofChannel(0, 3), room * 10);
            if (room > 0) {
                x.start(2);
                x.run(50);
                Check.due("one less", x.ofChannel(0, 1), room - 1);
                x.start(3);
                x.run(50);
                Check.due("it comes in", x.ofChannel(0, 1) * 10 + x.ofChannel(0, 3), room * 10);
            }
        }
    }

    /** 22 are given VALUES and CANCELLED, behind three more that came in. */
    private static void twentyFiveInRoomOfThree() {
        ScopeRow x = Check.with(Check.lines("ADD 21", "PUT 0", "OPEN 0 12", "SPAWN 1", "LOOP 0 3", "SHUT"),
            Check.lines("TAKE 0"),
            Check.lines("ADD 24", "PUT 0", "GET 1", "ADD 1", "SEND 0", "LOOP 0 3", "PUT 2", "SLEEP 1", "TAKE 0", "LOOP 2 7"));
        x.room(0, 3);
        x.start(0);
        x.run(50);
        Check.due("all wait", x.ofChannel(0, 4), 22);
        x.start(2);
        x.run(1);
        Check.due("given", x.many(2), 22);
        Check.due("full", x.ofChannel(0, 1) * 100 + x.ofChannel(0, 2), 323);
        Check.due("taken", x.ofChannel(0, 6), 22);
        x.cancel(0);
        Check.due("turns", x.run(22), 22);
        Check.due("in it", x.ofChannel(0, 1) * 100 + x.ofChannel(0, 2), 2522);
        Check.due("all given back", x.ofChannel(0, 6), 0);
        for (int i = 0; i < 25; i++) {
            x.tick(1);
            x.run(50);
            Check.due("the last one given back first", x.ofTask(23, 3), i < 22 ? 22 - i : i + 1);
            Check.due("in it", x.ofChannel(0, 1), 24 - i);
        }
        x.tick(1);
        x.run(50);
        Check.due("empty: it waits", x.ofTask(23, 8), 4);
        Check.due("taken", x.ofChannel(0, 6), 25);
    }

    private static void twentyFourWithAValue() {
        Check.begin("otherwise it WAITS, with that");
        ScopeRow x = Check.with(Check.lines("SEND 1"));
        x.room(1, 0);
        for (int i = 0; i < 24; i++) {
            x.start(0);
        }
        x.run(50);
        Check.due("wait", x.ofChannel(1, 3), 24);
        Check.due("in it", x.ofChannel(1, 1), 0);
        Check.due("stuck", x.stuck(), 24);
        ScopeRow y = Check.with(Check.lines("SEND 1"), Check.lines("END 1"));
        y.room(1, 0);
        for (int i = 0; i < 23; i++) {
            y.start(0);
        }
        y.start(1);
        y.run(24);
        Check.due("all ready by an END", y.many(2), 23);
        Check.due("none waits", y.ofChannel(1, 3), 0);
        y.run(50);
        Check.due("failed", y.many(5), 23);
        Check.due("with 5", y.ofTask(22, 3), 5);
    }

    private static void twentyFourForAValue() {
        Check.begin("otherwise it WAITS for a VALUE of either one");
        ScopeRow x = Check.with(Check.lines("PICK"));
        for (int i = 0; i < 24; i++) {
            x.start(0);
        }
        x.run(50);
        Check.due("both", x.ofChannel(0, 4) * 100 + x.ofChannel(1, 4), 2424);
        ScopeRow y = Check.with(Check.lines("PICK"), Check.lines("ADD 9", "SEND 1"), Check.lines("END 0"), Check.lines("END 1"));
        for (int i = 0; i < 21; i++) {
            y.start(0);
        }
        Check.starts(y, 1, 2, 3);
        y.run(22);
        Check.due("the first is given it, behind two in the row", y.ofTask(0, 6), 2);
        Check.due("the others wait", y.ofChannel(0, 4) * 100 + y.ofChannel(1, 4), 2020);
        Check.due("nothing came in", y.ofChannel(1, 1), 0);
        y.run(2);
        Check.due("none waits, as both have an END", y.ofChannel(0, 4) + y.ofChannel(1, 4), 0);
        Check.due("ready", y.many(2), 21);
        y.run(50);
        Check.due("it has it", y.ofTask(0, 1) * 10 + y.ofTask(0, 3), 29);
        Check.due("the local 3", y.local(0, 3), 1);
        Check.due("the others failed", y.many(5), 20);
        Check.due("with 6", y.ofTask(20, 3), 6);
    }

    private static void pickOfEach() {
        Check.begin("PICK: as TAKE of the CHANNEL 0, if that could be done at once without FAIL; otherwise so with 1");
        String[] none = {};
        String[] value0 = {"ADD 4", "SEND 0"};
        String[] value1 = {"ADD 5", "SEND 1"};
        String[] both = {"ADD 4", "SEND 0", "ADD 1", "SEND 1"};
        String[][] ahead = {none, value0, value1, both};
        String[][] ends = {{}, {"END 0"}, {"END 1"}, {"END 0", "END 1"}};
        for (int values = 0; values < 4; values++) {
            for (int ended = 0; ended < 4; ended++) {
                ScopeRow x = Check.with(ahead[values], ends[ended], Check.lines("ADD 9", "PUT 3", "PICK"));
                Check.starts(x, 0, 1, 2);
                x.run(3);
                int channel = values == 0 ? 9 : values == 2 ? 1 : 0;
                boolean waits = values == 0 && ended < 3;
                boolean fails = values == 0 && ended == 3;
                Check.due("it is", x.ofTask(2, 1), waits ? 1 : fails ? 3 : 2);
                Check.due("local 3", x.local(2, 3), channel);
                Check.due("there is", x.ofTask(2, 3), waits ? 9 : fails ? 6 : 4 + channel);
                Check.due("taken", x.ofChannel(0, 6) * 10 + x.ofChannel(1, 6), channel == 9 ? 0 : channel == 0 ? 10 : 1);
                Check.due("waits for either", x.ofChannel(0, 4) * 10 + x.ofChannel(1, 4), waits ? 11 : 0);
            }
        }
    }

    private static void endOfEmpty() {
        Check.begin("END: the CHANNEL has an END (FAIL 5, if it has one already)");
        for (int channel = 0; channel < 2; channel++) {
            ScopeRow x = Check.with(Check.lines("END " + channel), Check.lines("SEND " + channel), Check.lines("TAKE " + channel),
                Check.lines("TAKE " + (1 - channel)));
            Check.starts(x, 0, 0, 1, 2, 3);
            Check.due("none at first", x.ofChannel(channel, 5), 0);
            x.run(1);
            Check.due("returned", x.ofTask(0, 1), 2);
            Check.due("an end, none of the other", x.ofChannel(channel, 5) * 10 + x.ofChannel(1 - channel, 5), 10);
            x.run(50);
            Check.due("END again", x.ofTask(1, 1) * 10 + x.ofTask(1, 3), 35);
            Check.due("SEND", x.ofTask(2, 1) * 10 + x.ofTask(2, 3), 35);
            Check.due("TAKE", x.ofTask(3, 1) * 10 + x.ofTask(3, 3), 36);
            Check.due("TAKE of the other", x.ofTask(4, 8), 4);
        }
    }

    private static void endOfFull() {
        Check.begin("TAKE: there is the first VALUE in it, if there is one; otherwise, with an END, FAIL 6");
        for (int room = 1; room <= 3; room++) {
            ScopeRow x = Check.with(FIVE_SENDS, Check.lines("END 0"), Check.lines("TAKE 0"));
            x.room(0, room);
            Check.starts(x, 0, 1);
            x.run(2);
            Check.due("what is in it stays", x.ofChannel(0, 1), room);
            Check.due("the sender is ready", x.ofTask(0, 6), 0);
            x.run(1);
            Check.due("it failed", x.ofTask(0, 1) * 10 + x.ofTask(0, 3), 35);
            for (int i = 0; i <= room; i++) {
                x.start(2);
                x.run(1);
                Check.due("taken, or failed", x.ofTask(2 + i, 1) * 10 + x.ofTask(2 + i, 3), i < room ? 21 + i : 36);
            }
            Check.due("taken ever", x.ofChannel(0, 6), room);
        }
    }

    private static void endOfWaiting() {
        Check.begin("all these are READY, in the order in which they began to WAIT");
        // Four TAKE one after another, the last number first; a PICK among them waits on.
        ScopeRow x = Check.with(Check.lines("SLEEP 4", "TAKE 0"), Check.lines("SLEEP 3", "TAKE 0"), Check.lines("SLEEP 2", "PICK"),
            Check.lines("SLEEP 1", "TAKE 0"), Check.lines("END 0"), Check.lines("END 1"));
        Check.starts(x, 0, 1, 2, 3);
        x.run(50);
        for (int i = 0; i < 4; i++) {
            x.tick(1);
            x.run(50);
        }
        x.start(4);
        x.run(1);
        Check.due("three are ready", x.many(2), 3);
        Check.due("places", x.ofTask(3, 6) * 100 + x.ofTask(1, 6) * 10 + x.ofTask(0, 6), 12);
        Check.due("the PICK waits", x.ofTask(2, 1), 1);
        Check.due("for both", x.ofChannel(0, 4) * 10 + x.ofChannel(1, 4), 11);
        x.start(5);
        x.run(50);
        Check.due("all failed", x.many(5), 4);
        Check.due("with 6", x.ofTask(2, 3), 6);
    }

    private static void givenBackBehindEnd() {
        Check.begin("a VALUE that it was given ... or else is the first one in it: of a CHANNEL with an END");
        ScopeRow x = Check.with(Check.lines("OPEN 0 12", "TAKE 0"), Check.lines("ADD 7", "SEND 0", "END 0"), Check.lines("TAKE 0"));
        Check.starts(x, 0, 1);
        x.run(2);
        x.cancel(0);
        x.run(1);
        Check.due("in it", x.ofChannel(0, 1) * 10 + x.ofChannel(0, 2), 17);
        Check.starts(x, 2, 2);
        x.run(2);
        Check.due("taken", x.ofTask(2, 1) * 10 + x.ofTask(2, 3), 27);
        Check.due("none any more", x.ofTask(3, 1) * 10 + x.ofTask(3, 3), 36);
    }

    private static void givenBackToTheFirst() {
        Check.begin("a VALUE that it was given goes to the first TASK that WAITS for one of that CHANNEL");
        for (int waiting = 0; waiting <= 21; waiting += 7) {
            ScopeRow x = Check.with(Check.lines("OPEN 0 12", "PICK"), Check.lines("PICK"), Check.lines("ADD 7", "SEND 1"));
            x.start(0);
            for (int i = 0; i < waiting; i++) {
                x.start(1);
            }
            x.start(2);
            x.run(50);
            Check.due("it has it", x.ofTask(0, 3), 7);

            ScopeRow y = Check.with(Check.lines("OPEN 0 12", "PICK"), Check.lines("PICK"), Check.lines("ADD 7", "SEND 1"));
            y.start(0);
            for (int i = 0; i < waiting; i++) {
                y.start(1);
            }
            y.start(2);
            y.run(waiting + 2);
            y.cancel(0);
            y.run(1);
            Check.due("in it", y.ofChannel(1, 1), waiting == 0 ? 1 : 0);
            Check.due("waiting", y.ofChannel(1, 4), waiting == 0 ? 0 : waiting - 1);
            Check.due("taken", y.ofChannel(1, 6), waiting == 0 ? 0 : 1);
            Check.due("local 3 of the cancelled one", y.local(0, 3), 0);
            y.run(50);
            if (waiting > 0) {
                Check.due("the first has it", y.ofTask(1, 1) * 10 + y.ofTask(1, 3), 27);
                Check.due("local 3", y.local(1, 3), 1);
            }
        }
    }

    private static void lockGivenBack() {
        Check.begin("Given back, by CANCEL: a LOCK is FREED");
        for (int lock = 0; lock < 2; lock++) {
            for (int waiting = 0; waiting <= 22; waiting += 11) {
                ScopeRow x = Check.with(Check.lines("LOCK " + lock, "SLEEP 1", "FREE " + lock, "TAKE 0"),
                    Check.lines("LOCK " + (1 - lock), "OPEN 0 12", "LOCK " + lock), Check.lines("LOCK " + lock, "TAKE 0"));
                Check.starts(x, 0, 1);
                for (int i = 0; i < waiting; i++) {
                    x.start(2);
                }
                x.run(50);
                x.tick(1);
                x.run(1);
                x.cancel(0);
                Check.due("held till its turn", x.ofLock(lock, 0), 1);
                Check.due("the others wait", x.ofLock(lock, 1), waiting);
                Check.due("a turn", x.run(1), 1);
                Check.due("the first of these, or nobody", x.ofLock(lock, 0), waiting > 0 ? 2 : -1);
                Check.due("wait", x.ofLock(lock, 1), Math.max(0, waiting - 1));
                Check.due("held ever", x.ofLock(lock, 3), waiting > 0 ? 3 : 2);
                Check.due("it is over, the other lock free", x.ofTask(1, 1) * 10 + x.ofLock(1 - lock, 0), 19);
                Check.due("who has it is ready", x.many(2), waiting > 0 ? 1 : 0);
            }
        }
    }

    private static void valueGone() {
        Check.begin("A VALUE with which it WAITED is gone");
        for (int room = 0; room <= 3; room++) {
            ScopeRow x = Check.with(Check.lines("OPEN 0 12", "SEND 0"), FIVE_SENDS, Check.lines("TAKE 0"));
            x.room(0, room);
            x.start(1);
            x.run(1);
            x.start(0);
            x.run(1);
            Check.due("two wait with one", x.ofChannel(0, 3), 2);
            x.cancel(0);
            Check.due("one", x.ofChannel(0, 3), 1);
            x.run(1);
            Check.due("in it", x.ofChannel(0, 1), room);
            for (int i = 1; i <= 5; i++) {
                x.start(2);
                x.run(50);
                Check.due("taken", x.ofTask(1 + i, 3), i);
            }
            x.start(2);
            x.run(50);
            Check.due("no sixth", x.ofTask(7, 8), 4);
        }
    }
}
