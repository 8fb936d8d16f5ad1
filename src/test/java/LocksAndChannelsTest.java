/** Promise 6, section 4: locks and channels. */
final class LocksAndChannelsTest {
    private LocksAndChannelsTest() {
    }

    static void all() {
        Check.begin("promise 6, locks");
        locksAlone();
        handedOnInOrder();
        freedByNumbers();
        lockGivenBack();
        Check.begin("promise 6, channels");
        channelsAlone();
        sendGivesToTheFirst();
        sendersComeIn();
        noRoom();
        pickOrder();
        pickIsGiven();
        endOfSenders();
        endOfTakers();
        valueGivenBack();
        valueGivenBackToAnother();
        moreThanRoom();
        valueOfSenderIsGone();
        nothingToGiveBack();
        onlyThatIsGivenBack();
        takeBehindPick();
    }

    private static void locksAlone() {
        Check.due("LOCK twice", Check.alone("LOCK 0", "LOCK 0"), 304);
        Check.due("FREE of none", Check.alone("FREE 0"), 304);
        Check.due("FREE of the other", Check.alone("LOCK 0", "FREE 1"), 304);
        Check.due("both", Check.alone("LOCK 0", "LOCK 1", "FREE 0", "FREE 1", "ADD 5"), 205);
        Check.due("again", Check.alone("LOCK 0", "FREE 0", "LOCK 0", "ADD 5"), 205);
        ScopeRow x = Check.with(Check.lines("LOCK 0", "SLEEP 1"), Check.lines("FREE 0"));
        Check.starts(x, 0, 1);
        x.run(9);
        Check.due("FREE of what another holds", x.ofTask(1, 3), 4);
        Check.due("holder", x.ofLock(0, 0), 0);
    }

    private static void handedOnInOrder() {
        ScopeRow x = Check.with(Check.lines("SLEEP 1", "LOCK 0", "SLEEP 1", "FREE 0", "SLEEP 9"),
            Check.lines("LOCK 0", "SLEEP 3", "FREE 0"), Check.lines("LOCK 0"));
        Check.starts(x, 0, 1, 2, 2);
        x.run(9);
        Check.due("holder", x.ofLock(0, 0), 1);
        Check.due("wait", x.ofLock(0, 1), 2);
        Check.due("first", x.ofLock(0, 2), 2);
        x.tick(1);
        x.run(9);
        Check.due("wait", x.ofLock(0, 1), 3);
        Check.due("first, though another's number is lower", x.ofLock(0, 2), 2);
        Check.due("waits for a lock", x.ofTask(0, 8), 2);
        x.tick(2);
        x.run(1);
        Check.due("handed on", x.ofLock(0, 0), 2);
        Check.due("ready", x.ofTask(2, 6), 0);
        Check.due("held ever", x.ofLock(0, 3), 2);
        Check.due("the next line not begun", x.ofTask(2, 2), 0);
        x.run(9);
        Check.due("holder", x.ofLock(0, 0), 0);
        x.tick(1);
        x.run(9);
        Check.due("nobody", x.ofLock(0, 0), -1);
        Check.due("held ever", x.ofLock(0, 3), 4);
        Check.due("the other lock", x.ofLock(1, 3), 0);
    }

    private static void freedByNumbers() {
        ScopeRow x = Check.with(Check.lines("LOCK 1", "LOCK 0", "SLEEP 1", "FAIL 1"), Check.lines("LOCK 1"),
            Check.lines("LOCK 0"));
        Check.starts(x, 0, 1, 2);
        x.run(9);
        x.tick(1);
        x.run(1);
        Check.due("lock 0 first", x.ofTask(2, 6) * 10 + x.ofTask(1, 6), 1);
        Check.due("holders", x.ofLock(0, 0) * 10 + x.ofLock(1, 0), 21);
    }

    private static void lockGivenBack() {
        ScopeRow x = Check.with(Check.lines("LOCK 0", "SLEEP 1", "FREE 0", "SLEEP 9"),
            Check.lines("LOCK 1", "OPEN 0 3", "LOCK 0", "SLEEP 9"), Check.lines("LOCK 0", "SLEEP 9"));
        Check.starts(x, 0, 1, 2);
        x.run(9);
        x.tick(1);
        x.run(1);
        Check.due("given", x.ofLock(0, 0), 1);
        x.cancel(0);
        Check.due("held till its turn", x.ofLock(0, 0), 1);
        Check.due("the next one waits", x.ofTask(2, 8), 2);
        x.run(1);
        Check.due("given on", x.ofLock(0, 0), 2);
        Check.due("held ever", x.ofLock(0, 3), 3);
        Check.due("the other lock is kept", x.ofLock(1, 0), 1);
        Check.due("it goes on", x.ofTask(1, 8), 1);
        Check.due("with 1", x.ofTask(1, 3), 1);
    }

    private static void channelsAlone() {
        Check.due("SEND and TAKE", Check.alone("ADD 5", "SEND 1", "ADD 1", "TAKE 1"), 205);
        Check.due("in order", Check.alone("ADD 5", "SEND 1", "ADD 1", "SEND 0", "TAKE 1"), 205);
        Check.due("SEND with END", Check.alone("END 0", "SEND 0"), 305);
        Check.due("TAKE with END", Check.alone("END 0", "TAKE 0"), 306);
        Check.due("END twice", Check.alone("END 0", "END 0"), 305);
        Check.due("TAKE of what is in it", Check.alone("ADD 5", "SEND 0", "END 0", "ADD 1", "TAKE 0"), 205);
        Check.due("PICK with both ends", Check.alone("END 0", "END 1", "PICK"), 306);
        Check.due("PICK of what is in it", Check.alone("ADD 5", "SEND 1", "END 0", "END 1", "PICK", "GET 3"), 201);
        ScopeRow x = Check.with(Check.lines("END 1", "PICK"));
        x.start(0);
        x.run(1);
        Check.due("PICK with one end waits", x.ofTask(0, 8), 4);
        Check.due("for both", x.ofChannel(0, 4) * 10 + x.ofChannel(1, 4), 11);

        ScopeRow y = new ScopeRow();
        y.room(0, 3);
        Check.write(y, "ADD 1", "SEND 0", "ADD 1", "SEND 0", "ADD 1", "SEND 0", "ADD 1", "SEND 0");
        y.start(0);
        y.run(1);
        Check.due("values", y.ofChannel(0, 1), 3);
        Check.due("first", y.ofChannel(0, 2), 1);
        Check.due("waits with one", y.ofChannel(0, 3), 1);
        Check.due("taken", y.ofChannel(0, 6), 0);
        Check.due("for a SEND", y.ofTask(0, 8), 3);
        Check.due("at its line", y.ofTask(0, 2), 7);
    }

    private static void sendGivesToTheFirst() {
        ScopeRow x = Check.with(Check.lines("SLEEP 1", "TAKE 0"), Check.lines("TAKE 0"), Check.lines("ADD 5", "SEND 0"));
        Check.starts(x, 0, 1);
        x.run(9);
        x.tick(1);
        x.run(9);
        Check.due("waiting", x.ofChannel(0, 4), 2);
        Check.due("waits for a value", x.ofTask(0, 8), 4);
        x.start(2);
        x.run(1);
        Check.due("given to who began first", x.ofTask(1, 1) * 10 + x.ofTask(0, 1), 1);
        Check.due("not there till its turn", x.ofTask(1, 3), 0);
        Check.due("taken", x.ofChannel(0, 6), 1);
        Check.due("nothing in it", x.ofChannel(0, 1), 0);
        x.run(1);
        Check.due("there", x.ofTask(1, 3), 5);
    }

    private static void sendersComeIn() {
        ScopeRow x = Check.with(Check.lines("ADD 1", "SEND 0", "ADD 1", "SEND 0", "ADD 50"),
            Check.lines("ADD 7", "SEND 0"), Check.lines("TAKE 0"));
        Check.starts(x, 0, 1);
        x.run(9);
        Check.due("waiting", x.ofChannel(0, 3), 2);
        Check.starts(x, 2, 2, 2);
        x.run(1);
        Check.due("first value", x.ofTask(2, 3), 1);
        Check.due("the next comes in", x.ofChannel(0, 1) * 10 + x.ofChannel(0, 2), 12);
        Check.due("ready", x.ofTask(0, 6), 2);
        Check.due("waiting", x.ofChannel(0, 3), 1);
        x.run(9);
        Check.due("values in order", x.ofTask(3, 3) * 10 + x.ofTask(4, 3), 27);
        Check.due("taken", x.ofChannel(0, 6), 3);
        Check.due("the sender went on", x.ofTask(0, 3), 52);
    }

    private static void noRoom() {
        ScopeRow x = new ScopeRow();
        x.room(0, 0);
        Check.write(x, "ADD 7", "SEND 0", "ADD 1");
        Check.write(x, "TAKE 0");
        Check.starts(x, 0, 0, 1);
        x.run(2);
        Check.due("both wait", x.ofChannel(0, 3), 2);
        Check.due("nothing in it", x.ofChannel(0, 1) + x.ofChannel(0, 2), 0);
        x.run(1);
        Check.due("taken from the first", x.ofTask(2, 3), 7);
        Check.due("one is ready", x.ofTask(0, 1) * 10 + x.ofTask(1, 1), 1);
        Check.due("still nothing in it", x.ofChannel(0, 1), 0);
    }

    private static void pickOrder() {
        Check.due("0 first", Check.alone("ADD 5", "SEND 1", "ADD 1", "SEND 0", "PICK"), 206);
        Check.due("its channel", Check.alone("ADD 5", "PUT 3", "SEND 1", "SEND 0", "PICK", "GET 3"), 200);
        Check.due("then 1", Check.alone("ADD 5", "SEND 1", "ADD 1", "PICK"), 205);
        ScopeRow x = new ScopeRow();
        x.room(1, 0);
        Check.write(x, "ADD 7", "SEND 1");
        Check.write(x, "PICK");
        Check.starts(x, 0, 1);
        x.run(2);
        Check.due("of one who waits with it", x.ofTask(1, 3), 7);
        Check.due("of channel 1", x.local(1, 3), 1);
    }

    private static void pickIsGiven() {
        ScopeRow x = Check.with(Check.lines("ADD 9", "PUT 3", "PICK"), Check.lines("TAKE 1"), Check.lines("ADD 4", "SEND 1"));
        Check.starts(x, 0, 1, 2);
        x.run(3);
        Check.due("ready", x.ofTask(0, 6), 0);
        Check.due("it waits for neither now", x.ofChannel(0, 4) * 10 + x.ofChannel(1, 4), 1);
        Check.due("local 3 till its turn", x.local(0, 3), 9);
        Check.due("what there is till then", x.ofTask(0, 3), 9);
        Check.due("taken", x.ofChannel(1, 6) * 10 + x.ofChannel(0, 6), 10);
        x.run(1);
        Check.due("local 3", x.local(0, 3), 1);
        Check.due("what there is", x.ofTask(0, 3), 4);
    }

    private static void endOfSenders() {
        ScopeRow x = Check.with(Check.lines("SLEEP 1", "ADD 2", "SEND 0"), Check.lines("ADD 7", "SEND 0", "SEND 0"),
            Check.lines("END 0"), Check.lines("SEND 1", "SEND 1"));
        Check.starts(x, 0, 1, 3);
        x.run(9);
        x.tick(1);
        x.run(9);
        x.start(2);
        x.run(1);
        Check.due("in the order in which they began", x.ofTask(1, 6) * 10 + x.ofTask(0, 6), 1);
        Check.due("end", x.ofChannel(0, 5) * 10 + x.ofChannel(1, 5), 10);
        Check.due("what was in it stays", x.ofChannel(0, 1) * 10 + x.ofChannel(0, 3), 10);
        Check.due("the other one's goes on waiting", x.ofTask(2, 8), 3);
        Check.due("not failed till its turn", x.ofTask(1, 3), 7);
        x.run(9);
        Check.due("failed with 5", x.ofTask(0, 3) * 10 + x.ofTask(1, 3), 55);
    }

    private static void endOfTakers() {
        ScopeRow x = Check.with(Check.lines("SLEEP 1", "TAKE 0"), Check.lines("PICK"), Check.lines("TAKE 1"),
            Check.lines("END 0"), Check.lines("END 1"));
        Check.starts(x, 0, 1, 2);
        x.run(9);
        x.tick(1);
        x.run(9);
        x.start(3);
        x.run(1);
        Check.due("ready", x.many(2), 1);
        Check.due("the PICK goes on waiting", x.ofTask(1, 8), 4);
        x.run(9);
        Check.due("failed with 6", x.ofTask(0, 1) * 10 + x.ofTask(0, 3), 36);
        x.start(4);
        x.run(1);
        Check.due("the PICK, too", x.ofTask(1, 6) * 10 + x.ofTask(2, 6), 1);
        x.run(9);
        Check.due("failed with 6", x.ofTask(1, 3) * 10 + x.ofTask(2, 3), 66);
    }

    private static void valueGivenBack() {
        ScopeRow x = Check.with(Check.lines("OPEN 0 2", "PICK", "GET 3"), Check.lines("ADD 5", "SEND 1"));
        Check.starts(x, 0, 1);
        x.run(2);
        Check.due("taken", x.ofChannel(1, 6), 1);
        x.cancel(0);
        Check.due("till its turn", x.ofChannel(1, 6), 1);
        x.run(1);
        Check.due("given back", x.ofChannel(1, 6), 0);
        Check.due("in it", x.ofChannel(1, 1) * 10 + x.ofChannel(1, 2), 15);
        Check.due("local 3 as it was", x.ofTask(0, 3), 0);
    }

    private static void valueGivenBackToAnother() {
        ScopeRow x = Check.with(Check.lines("OPEN 0 2", "TAKE 0"), Check.lines("PICK"), Check.lines("ADD 5", "SEND 0"));
        Check.starts(x, 0, 1, 2);
        x.run(3);
        x.cancel(0);
        x.run(1);
        Check.due("given on", x.ofTask(1, 6), 0);
        Check.due("taken", x.ofChannel(0, 6), 1);
        Check.due("nothing in it", x.ofChannel(0, 1), 0);
        x.run(1);
        Check.due("there", x.ofTask(1, 3), 5);
        Check.due("of channel 0", x.local(1, 3), 0);
    }

    /** One is given back ahead of one that is in it; a TAKE lets one come in all the same. */
    private static void moreThanRoom() {
        ScopeRow x = Check.with(Check.lines("OPEN 0 2", "TAKE 0"),
            Check.lines("ADD 5", "SEND 0", "ADD 1", "SEND 0", "ADD 1", "SEND 0"), Check.lines("TAKE 0"));
        Check.starts(x, 0, 1);
        x.run(2);
        Check.due("in it", x.ofChannel(0, 1) * 10 + x.ofChannel(0, 2), 16);
        x.cancel(0);
        x.run(1);
        Check.due("more than room, the one that came back first", x.ofChannel(0, 1) * 10 + x.ofChannel(0, 2), 25);
        Check.starts(x, 2, 2, 2);
        x.run(1);
        Check.due("taken", x.ofTask(2, 3), 5);
        Check.due("one came in", x.ofChannel(0, 1) * 10 + x.ofChannel(0, 3), 20);
        x.run(9);
        Check.due("the others", x.ofTask(3, 3) * 10 + x.ofTask(4, 3), 67);
        Check.due("taken", x.ofChannel(0, 6), 3);
    }

    /** What came of an earlier wait is not given back by the CANCEL of a later one. */
    private static void nothingToGiveBack() {
        ScopeRow x = Check.with(Check.lines("OPEN 0 4", "TAKE 0", "TAKE 0", "FAIL 1", "ADD 5"),
            Check.lines("ADD 7", "SEND 0"));
        Check.starts(x, 0, 1);
        x.run(9);
        Check.due("has the first one", x.ofTask(0, 3), 7);
        x.cancel(0);
        x.run(1);
        Check.due("nothing came back", x.ofChannel(0, 1), 0);
        Check.due("taken", x.ofChannel(0, 6), 1);
        Check.due("done", x.ofTask(0, 3), 6);

        ScopeRow y = Check.with(Check.lines("LOCK 0", "SLEEP 1", "FREE 0"),
            Check.lines("OPEN 0 3", "LOCK 0", "SLEEP 9", "TAKE 1"));
        Check.starts(y, 0, 1);
        y.run(9);
        y.tick(1);
        y.run(9);
        y.cancel(0);
        y.run(1);
        Check.due("the lock is held", y.ofLock(0, 0), 1);
        Check.due("it waits", y.ofTask(1, 8), 4);
    }

    private static void onlyThatIsGivenBack() {
        ScopeRow x = Check.with(Check.lines("LOCK 1", "OPEN 0 4", "TAKE 1", "FAIL 1", "TAKE 0"),
            Check.lines("ADD 7", "SEND 1"));
        Check.starts(x, 0, 1);
        x.run(2);
        x.cancel(0);
        x.run(1);
        Check.due("the value came back", x.ofChannel(1, 2), 7);
        Check.due("not the lock of that number", x.ofLock(1, 0), 0);

        ScopeRow y = Check.with(Check.lines("LOCK 0", "SLEEP 1"), Check.lines("OPEN 0 3", "LOCK 0", "FAIL 1", "TAKE 1"));
        Check.starts(y, 0, 1);
        y.run(9);
        y.tick(1);
        y.run(1);
        y.cancel(0);
        y.run(1);
        Check.due("the lock came back", y.ofLock(0, 0), -1);
        Check.due("no value came into the channel of that number", y.ofChannel(0, 1), 0);
        Check.due("nor was it taken", y.ofChannel(0, 6), 0);
    }

    private static void takeBehindPick() {
        ScopeRow x = Check.with(Check.lines("PICK", "TAKE 0", "GET 3"), Check.lines("ADD 7", "SEND 1", "SEND 1"),
            Check.lines("LOCK 1", "SLEEP 1"), Check.lines("PICK", "LOCK 1"));
        Check.starts(x, 0, 1);
        x.run(9);
        Check.due("it waits for channel 0", x.ofChannel(0, 4), 1);
        Check.due("and no more for channel 1", x.ofChannel(1, 4), 0);
        Check.due("in which there is one", x.ofChannel(1, 1), 1);
        Check.starts(x, 2, 3);
        x.run(9);
        Check.due("behind a PICK it waits for one lock", x.ofLock(0, 1) * 10 + x.ofLock(1, 1), 1);
    }

    private static void valueOfSenderIsGone() {
        ScopeRow x = Check.with(Check.lines("OPEN 0 4", "SEND 0", "ADD 5", "SEND 0"));
        x.start(0);
        x.run(1);
        x.cancel(0);
        Check.due("it waits with it no more", x.ofChannel(0, 3), 0);
        x.run(1);
        Check.due("what was in it", x.ofChannel(0, 1) * 10 + x.ofChannel(0, 2), 10);

        // One whose VALUE came in already gives nothing back.
        ScopeRow y = Check.with(Check.lines("OPEN 0 4", "SEND 0", "ADD 5", "SEND 0"), Check.lines("TAKE 0"));
        Check.starts(y, 0, 1);
        y.run(2);
        y.cancel(0);
        y.run(1);
        Check.due("it stays in it", y.ofChannel(0, 1) * 10 + y.ofChannel(0, 2), 15);
        Check.due("taken", y.ofChannel(0, 6), 1);
        Check.due("done with 1", y.ofTask(0, 3), 1);
    }
}
