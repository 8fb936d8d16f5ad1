/** A machine for tasks in scopes, as ../shared/DOC.md tells it. */
public final class ScopeRow {
    private static final int NONE = -1;

    private static final int BODIES_MOST = 8;
    private static final int LINES_MOST = 12;
    private static final int TASKS_MOST = 24;
    private static final int SCOPES_MOST = 40;
    private static final int LOCALS = 4;
    private static final int LOCKS = 2;
    private static final int CHANNELS = 2;
    private static final int ROOM_MOST = 3;
    private static final int ROOM_FIRST = 1;
    private static final int TURNS_MOST = 50;
    private static final int TICKS_MOST = 20;
    private static final int LINES_OF_A_TURN = 100;
    private static final int THERE_MOST = 9999;
    /** The LOCAL that tells of a PICK which CHANNEL it was. */
    private static final int PICK_LOCAL = 3;
    /** Above ROOM by one for each TASK, as each may give one VALUE back. */
    private static final int VALUES_MOST = ROOM_MOST + TASKS_MOST;
    /** Far above the 100 LINES of a turn, a SCOPE left by each, and all SCOPES left behind these. */
    private static final int STEPS_OF_A_TURN = 1000;

    private static final int ADD = 0;
    private static final int GET = 1;
    private static final int PUT = 2;
    private static final int LOOP = 3;
    private static final int SKIP = 4;
    private static final int RETURN = 5;
    private static final int FAIL = 6;
    private static final int OPEN = 7;
    private static final int SHIELD = 8;
    private static final int SHUT = 9;
    private static final int SPAWN = 10;
    private static final int STOP = 11;
    private static final int SLEEP = 12;
    private static final int LOCK = 13;
    private static final int FREE = 14;
    private static final int SEND = 15;
    private static final int TAKE = 16;
    private static final int END = 17;
    private static final int PICK = 18;

    private static final int TASK_READY = 0;
    private static final int TASK_WAITS = 1;
    private static final int TASK_RETURNED = 2;
    private static final int TASK_FAILED = 3;
    private static final int TASK_DROPPED = 4;

    private static final int WAIT_NOTHING = 0;
    private static final int WAIT_SLEEP = 1;
    private static final int WAIT_LOCK = 2;
    private static final int WAIT_SEND = 3;
    private static final int WAIT_VALUE = 4;
    private static final int WAIT_SCOPE = 5;

    private static final int SCOPE_OPEN = 0;
    private static final int SCOPE_LEAVING = 1;
    private static final int SCOPE_CLOSED = 2;

    // How a turn goes on behind a step of it. A way above 0 is a FAIL with that number.
    private static final int WAY_GO = 0;
    private static final int WAY_DONE = -1;
    private static final int WAY_RETURN = -2;
    private static final int WAY_CANCEL = -3;
    private static final int WAY_TURN_ENDS = -4;

    private static final int FAIL_NO_SCOPE = 1;
    private static final int FAIL_NO_TASK = 2;
    private static final int FAIL_SCOPES = 3;
    private static final int FAIL_LOCK = 4;
    private static final int FAIL_ENDED = 5;
    private static final int FAIL_NO_VALUE = 6;
    private static final int FAIL_TOO_LONG = 7;

    private static final int OF_TASK_MOST = 8;
    private static final int OF_SCOPE_MOST = 8;
    private static final int OF_LOCK_MOST = 3;
    private static final int OF_CHANNEL_MOST = 6;
    private static final int MANY_MOST = 12;

    private final Program program = new Program();
    private final State state = new State();
    private final Runner runner = new Runner(program, state);
    private final Answers answers = new Answers(program, state);
    // What would be is tried on a copy, made once here and filled anew for each question.
    private final State trial = new State();
    private final Runner trialRunner = new Runner(program, trial);
    private final Answers trialAnswers = new Answers(program, trial);

    public ScopeRow() {
    }

    // ---- bodies

    public int body() throws IllegalStateException {
        if (program.bodies >= BODIES_MOST) {
            throw new IllegalStateException("there are 8 bodies");
        }
        return program.addBody();
    }

    public int line(int body, int kind, int a, int b)
            throws IndexOutOfBoundsException, IllegalArgumentException, IllegalStateException {
        checkNumber(body, program.bodies);
        int own = program.linesOf(body);
        if (!Program.fits(kind, a, b, own)) {
            throw new IllegalArgumentException("no such line");
        }
        if (own >= LINES_MOST || state.isUsed(body)) {
            throw new IllegalStateException("the body takes no line");
        }
        program.addLine(body, kind, a, b);
        return own;
    }

    public int room(int channel, int room)
            throws IndexOutOfBoundsException, IllegalArgumentException, IllegalStateException {
        checkNumber(channel, CHANNELS);
        checkWithin(room, 0, ROOM_MOST);
        if (state.taskCount > 0) {
            throw new IllegalStateException("there was a task");
        }
        return state.changeRoom(channel, room);
    }

    // ---- what goes on

    public int start(int body) throws IndexOutOfBoundsException, IllegalStateException {
        checkNumber(body, program.bodies);
        int task = state.makeTask(body, NONE);
        if (task == NONE) {
            throw new IllegalStateException("there are 24 tasks");
        }
        return task;
    }

    public int run(int turns) throws IllegalArgumentException {
        checkWithin(turns, 1, TURNS_MOST);
        return runner.takeTurns(turns);
    }

    public int tick(int ticks) throws IllegalArgumentException {
        checkWithin(ticks, 1, TICKS_MOST);
        int ready = 0;
        for (int i = 0; i < ticks; i++) {
            ready += state.tickOnce();
        }
        return ready;
    }

    public boolean cancel(int scope) throws IndexOutOfBoundsException {
        checkNumber(scope, state.scopeCount);
        return state.cancelScope(state.scopeAt(scope));
    }

    // ---- what one asks

    public int ofTask(int task, int what) throws IndexOutOfBoundsException, IllegalArgumentException {
        checkNumber(task, state.taskCount);
        checkWithin(what, 0, OF_TASK_MOST);
        return answers.aboutTask(task, what);
    }

    public int local(int task, int local) throws IndexOutOfBoundsException {
        checkNumber(task, state.taskCount);
        checkNumber(local, LOCALS);
        return answers.aboutLocal(task, local);
    }

    public int ofScope(int scope, int what) throws IndexOutOfBoundsException, IllegalArgumentException {
        checkNumber(scope, state.scopeCount);
        checkWithin(what, 0, OF_SCOPE_MOST);
        return answers.aboutScope(scope, what);
    }

    public int ofLock(int lock, int what) throws IndexOutOfBoundsException, IllegalArgumentException {
        checkNumber(lock, LOCKS);
        checkWithin(what, 0, OF_LOCK_MOST);
        return answers.aboutLock(lock, what);
    }

    public int ofChannel(int channel, int what) throws IndexOutOfBoundsException, IllegalArgumentException {
        checkNumber(channel, CHANNELS);
        checkWithin(what, 0, OF_CHANNEL_MOST);
        return answers.aboutChannel(channel, what);
    }

    public int many(int what) throws IllegalArgumentException {
        checkWithin(what, 0, MANY_MOST);
        return answers.howMany(what);
    }

    public double meanLines() {
        return state.taskCount > 0 ? (double) state.lines / state.taskCount : 0.0;
    }

    public int stuck() {
        return answers.countStuck();
    }

    // ---- what would be (nothing is changed)

    public int wouldHit(int scope) throws IndexOutOfBoundsException {
        checkNumber(scope, state.scopeCount);
        return answers.countNewlyHit(scope);
    }

    public int overBy(int ticks, int turns) throws IllegalArgumentException {
        checkWithin(ticks, 1, TICKS_MOST);
        checkWithin(turns, 1, TURNS_MOST);
        return overAfter(ticks, turns);
    }

    public boolean isClosedBy(int scope, int turns) throws IndexOutOfBoundsException, IllegalArgumentException {
        checkNumber(scope, state.scopeCount);
        checkWithin(turns, 1, TURNS_MOST);
        trial.copyFrom(state);
        trial.cancelScope(trial.scopeAt(scope));
        trialRunner.takeTurns(turns);
        return trialAnswers.aboutScope(scope, 1) == SCOPE_CLOSED;
    }

    public int thereBy(int task, int turns) throws IndexOutOfBoundsException, IllegalArgumentException {
        checkNumber(task, state.taskCount);
        checkWithin(turns, 1, TURNS_MOST);
        trial.copyFrom(state);
        trialRunner.takeTurns(turns);
        return trialAnswers.aboutTask(task, 3);
    }

    public long digest() {
        long d = 7614;
        for (int what = 0; what <= MANY_MOST; what++) {
            d = d * 31 + answers.howMany(what);
        }
        d = answers.digestTasks(d);
        d = answers.digestScopes(d);
        d = answers.digestLocksAndChannels(d);
        d = d * 31 + answers.countStuck();
        d = d * 31 + overAfter(1, 10);
        d = d * 31 + overAfter(5, 10);
        return d;
    }

    private int overAfter(int ticks, int turns) {
        trial.copyFrom(state);
        for (int i = 0; i < ticks; i++) {
            trial.tickOnce();
            trialRunner.takeTurns(turns);
        }
        return trialAnswers.countOver();
    }

    private static void checkNumber(int number, int count) {
        if (number < 0 || number >= count) {
            throw new IndexOutOfBoundsException("there is none of that number");
        }
    }

    private static void checkWithin(int value, int lowest, int highest) {
        if (value < lowest || value > highest) {
            throw new IllegalArgumentException("out of its bounds");
        }
    }

    /** The BODIES and their LINES. */
    private static final class Program {
        int bodies;
        final int[] lengths = new int[BODIES_MOST];
        final int[] kinds = new int[BODIES_MOST * LINES_MOST];
        final int[] firsts = new int[BODIES_MOST * LINES_MOST];
        final int[] seconds = new int[BODIES_MOST * LINES_MOST];

        int addBody() {
            int number = bodies;
            bodies++;
            return number;
        }

        int linesOf(int body) {
            return body >= 0 && body < lengths.length ? lengths[body] : 0;
        }

        void addLine(int body, int kind, int a, int b) {
            int own = linesOf(body);
            int place = placeOf(body, own);
            if (place == NONE) {
                return;
            }
            kinds[place] = kind;
            firsts[place] = a;
            seconds[place] = b;
            lengths[body] = own + 1;
        }

        /** Where a LINE stands, or would stand, in the rows of all LINES; NONE without a place for it. */
        int placeOf(int body, int line) {
            boolean isThere = body >= 0 && body < BODIES_MOST && line >= 0 && line < LINES_MOST;
            return isThere ? body * LINES_MOST + line : NONE;
        }

        static boolean fits(int kind, int a, int b, int own) {
            if (kind < ADD || kind > PICK) {
                return false;
            }
            return a >= lowestA(kind) && a <= highestA(kind)
                && b >= lowestB(kind, own) && b <= highestB(kind, own);
        }

        static int lowestA(int kind) {
            switch (kind) {
                case ADD: return -99;
                case FAIL:
                case SLEEP: return 1;
                default: return 0;
            }
        }

        static int highestA(int kind) {
            switch (kind) {
                case ADD: return 99;
                case GET:
                case PUT:
                case LOOP: return LOCALS - 1;
                case FAIL: return 7;
                case OPEN: return 20;
                case SPAWN: return BODIES_MOST - 1;
                case SLEEP: return 9;
                case LOCK:
                case FREE: return LOCKS - 1;
                case SEND:
                case TAKE:
                case END: return CHANNELS - 1;
                default: return 0;
            }
        }

        static boolean goesForward(int kind) {
            return kind == SKIP || kind == OPEN || kind == SHIELD;
        }

        static int lowestB(int kind, int own) {
            return goesForward(kind) ? own + 1 : 0;
        }

        static int highestB(int kind, int own) {
            if (goesForward(kind)) {
                return LINES_MOST;
            }
            return kind == LOOP ? own : 0;
        }
    }

    private static final class Task {
        final int number;
        final int[] locals = new int[LOCALS];
        int body;
        /** NONE as long as it was not made. */
        int state = NONE;
        int line;
        int there;
        int in = NONE;
        int top = NONE;
        int depth;
        /** What it WAITS for; of a READY one, what its turn begins behind. */
        int behind;
        /** The LOCK or the CHANNEL of that; of a PICK, the CHANNEL that gave the VALUE. */
        int target;
        boolean picks;
        int until;
        /** The VALUE with which it WAITS, or that it was given. */
        int value;
        boolean given;
        /** The FAIL that is due at its turn; 0 without one. */
        int fault;
        /** Lower for one that began to WAIT earlier. */
        int since;

        Task(int number) {
            this.number = number;
        }

        boolean isOver() {
            return state == TASK_RETURNED || state == TASK_FAILED || state == TASK_DROPPED;
        }

        boolean waitsAt(int what) {
            return state == TASK_WAITS && behind == what;
        }

        int localAt(int place) {
            return place >= 0 && place < locals.length ? locals[place] : 0;
        }

        void putLocal(int place, int what) {
            if (place >= 0 && place < locals.length) {
                locals[place] = what;
            }
        }

        void copyFrom(Task other) {
            for (int i = 0; i < LOCALS; i++) {
                putLocal(i, other.localAt(i));
            }
            body = other.body;
            state = other.state;
            line = other.line;
            there = other.there;
            in = other.in;
            top = other.top;
            depth = other.depth;
            behind = other.behind;
            target = other.target;
            picks = other.picks;
            until = other.until;
            value = other.value;
            given = other.given;
            fault = other.fault;
            since = other.since;
        }
    }

    private static final class Scope {
        final int number;
        /** NONE as long as it was not opened. */
        int state = NONE;
        int opener;
        /** The one below it on the STACK; NONE without one. */
        int below;
        /** The next one outwards: that below it, or that which its opener is IN. */
        int outer;
        boolean cancelled;
        boolean shield;
        int deadline;
        /** The LINE b of its OPEN or SHIELD. */
        int goesOnAt;
        int leavingFor;
        int entered;
        int over;
        int failed;
        int firstFailed = NONE;

        Scope(int number) {
            this.number = number;
        }

        void begin(Task task, boolean isShield, int itsDeadline, int line) {
            state = SCOPE_OPEN;
            opener = task.number;
            below = task.top;
            outer = task.top != NONE ? task.top : task.in;
            shield = isShield;
            deadline = itsDeadline;
            goesOnAt = line;
        }

        /** OPEN or LEAVING. */
        boolean isLive() {
            return state == SCOPE_OPEN || state == SCOPE_LEAVING;
        }

        void copyFrom(Scope other) {
            state = other.state;
            opener = other.opener;
            below = other.below;
            outer = other.outer;
            cancelled = other.cancelled;
            shield = other.shield;
            deadline = other.deadline;
            goesOnAt = other.goesOnAt;
            leavingFor = other.leavingFor;
            entered = other.entered;
            over = other.over;
            failed = other.failed;
            firstFailed = other.firstFailed;
        }
    }

    private static final class Lock {
        final int number;
        int holder = NONE;
        int heldEver;

        Lock(int number) {
            this.number = number;
        }

        void giveTo(Task task) {
            holder = task.number;
            heldEver++;
        }

        void copyFrom(Lock other) {
            holder = other.holder;
            heldEver = other.heldEver;
        }
    }

    private static final class Channel {
        int room = ROOM_FIRST;
        final int[] values = new int[VALUES_MOST];
        int count;
        boolean ended;
        int taken;

        int first() {
            return count > 0 ? values[0] : 0;
        }

        void addLast(int value) {
            if (count >= 0 && count < values.length) {
                values[count] = value;
                count++;
            }
        }

        void addFirst(int value) {
            if (count < 0 || count >= values.length) {
                return;
            }
            for (int i = count; i > 0; i--) {
                values[i] = values[i - 1];
            }
            values[0] = value;
            count++;
        }

        void dropFirst() {
            for (int i = 1; i < count && i < values.length; i++) {
                values[i - 1] = values[i];
            }
            count = count > 0 ? count - 1 : 0;
        }

        void copyFrom(Channel other) {
            room = other.room;
            System.arraycopy(other.values, 0, values, 0, VALUES_MOST);
            count = other.count;
            ended = other.ended;
            taken = other.taken;
        }
    }

    /** All that a turn or a tick can change, and what happens to several TASKS at once. */
    private static final class State {
        final Task[] tasks = new Task[TASKS_MOST];
        int taskCount;
        final Scope[] scopes = new Scope[SCOPES_MOST];
        int scopeCount;
        final Lock[] locks = new Lock[LOCKS];
        final Channel[] channels = new Channel[CHANNELS];
        /** The READY ones, by their turns. */
        final int[] row = new int[TASKS_MOST];
        int rowCount;
        int now;
        int turns;
        int lines;
        int waits;

        State() {
            for (int i = 0; i < tasks.length; i++) {
                tasks[i] = new Task(i);
            }
            for (int i = 0; i < scopes.length; i++) {
                scopes[i] = new Scope(i);
            }
            for (int i = 0; i < locks.length; i++) {
                locks[i] = new Lock(i);
            }
            for (int i = 0; i < channels.length; i++) {
                channels[i] = new Channel();
            }
        }

        void copyFrom(State other) {
            for (int i = 0; i < TASKS_MOST; i++) {
                tasks[i].copyFrom(other.tasks[i]);
                row[i] = other.row[i];
            }
            for (int i = 0; i < SCOPES_MOST; i++) {
                scopes[i].copyFrom(other.scopes[i]);
            }
            for (int i = 0; i < LOCKS; i++) {
                locks[i].copyFrom(other.locks[i]);
            }
            for (int i = 0; i < CHANNELS; i++) {
                channels[i].copyFrom(other.channels[i]);
            }
            taskCount = other.taskCount;
            scopeCount = other.scopeCount;
            rowCount = other.rowCount;
            now = other.now;
            turns = other.turns;
            lines = other.lines;
            waits = other.waits;
        }

        Task taskAt(int number) {
            return number >= 0 && number < tasks.length ? tasks[number] : null;
        }

        Scope scopeAt(int number) {
            return number >= 0 && number < scopes.length ? scopes[number] : null;
        }

        Lock lockAt(int number) {
            return number >= 0 && number < locks.length ? locks[number] : null;
        }

        Channel channelAt(int number) {
            return number >= 0 && number < channels.length ? channels[number] : null;
        }

        /** Whether a TASK was made of a BODY. */
        boolean isUsed(int body) {
            for (Task task : tasks) {
                if (task.state != NONE && task.body == body) {
                    return true;
                }
            }
            return false;
        }

        int changeRoom(int number, int room) {
            Channel channel = channelAt(number);
            if (channel == null) {
                return NONE;
            }
            int before = channel.room;
            channel.room = room;
            return before;
        }

        /** Returns its number; NONE, if there are 24. */
        int makeTask(int body, int in) {
            Task task = taskAt(taskCount);
            if (task == null) {
                return NONE;
            }
            task.body = body;
            task.in = in;
            taskCount++;
            makeReady(task);
            return task.number;
        }

        void makeReady(Task task) {
            task.state = TASK_READY;
            if (rowCount >= 0 && rowCount < row.length) {
                row[rowCount] = task.number;
                rowCount++;
            }
        }

        /** Takes the first READY one off the row; null without one. */
        Task takeReady() {
            if (rowCount <= 0) {
                return null;
            }
            Task first = taskAt(row[0]);
            for (int i = 1; i < rowCount && i < row.length; i++) {
                row[i - 1] = row[i];
            }
            rowCount--;
            return first;
        }

        void beginWait(Task task, int what, int target) {
            task.state = TASK_WAITS;
            task.behind = what;
            task.target = target;
            task.picks = false;
            task.given = false;
            task.fault = 0;
            task.since = waits;
            waits++;
        }

        boolean waitsFor(Task task, int what, int target) {
            return task.waitsAt(what) && (task.target == target || task.picks);
        }

        /** The one that WAITS longest for that; null without one. */
        Task firstWaiting(int what, int target) {
            Task first = null;
            for (Task task : tasks) {
                boolean waits = task.state == TASK_WAITS && task.behind == what
                    && (task.target == target || task.picks);
                if (waits && (first == null || task.since < first.since)) {
                    first = task;
                }
            }
            return first;
        }

        /** Whether a TASK is HIT, or would be, if the SCOPE also was CANCELLED. */
        boolean isHit(Task task, int also) {
            int number = task.top != NONE ? task.top : task.in;
            for (int step = 0; step < SCOPES_MOST && number >= 0 && number < scopes.length; step++) {
                Scope scope = scopes[number];
                if (scope.state != SCOPE_CLOSED) {
                    if (scope.cancelled || number == also) {
                        return true;
                    }
                    if (scope.shield) {
                        return false;
                    }
                }
                number = scope.outer;
            }
            return false;
        }

        /** Whether it was not CANCELLED before, nor CLOSED. */
        boolean cancelScope(Scope scope) {
            if (scope == null || !scope.isLive() || scope.cancelled) {
                return false;
            }
            scope.cancelled = true;
            for (Task task : tasks) {
                if (task.state == TASK_WAITS && task.behind != WAIT_SCOPE && isHit(task, NONE)) {
                    makeReady(task);
                }
            }
            return true;
        }

        /** NOW becomes 1 more; returns how many TASKS became READY by that. */
        int tickOnce() {
            int before = rowCount;
            now++;
            for (Scope scope : scopes) {
                if (scope.isLive() && scope.deadline == now) {
                    cancelScope(scope);
                }
            }
            for (Task task : tasks) {
                if (task.waitsAt(WAIT_SLEEP) && task.until == now) {
                    makeReady(task);
                }
            }
            return rowCount - before;
        }

        /** The first of those who WAIT for a LOCK holds it, or nobody. */
        void freeLock(Lock lock) {
            lock.holder = NONE;
            Task next = firstWaiting(WAIT_LOCK, lock.number);
            if (next != null) {
                lock.giveTo(next);
                next.given = true;
                makeReady(next);
            }
        }

        /** A TASK that WAITS for a VALUE of a CHANNEL is given one. */
        void giveValue(Task taker, int number, int value) {
            Channel channel = channelAt(number);
            if (channel == null) {
                return;
            }
            taker.value = value;
            taker.target = number;
            taker.given = true;
            channel.taken++;
            makeReady(taker);
        }

        /** What a TASK was given while it WAITED, and never had, as its turn begins with CANCEL. */
        void giveBack(Task task, int behind) {
            if (!task.given) {
                return;
            }
            Lock lock = lockAt(task.target);
            if (behind == WAIT_LOCK && lock != null) {
                freeLock(lock);
            }
            Channel channel = channelAt(task.target);
            if (behind == WAIT_VALUE && channel != null) {
                channel.taken--;
                Task taker = firstWaiting(WAIT_VALUE, task.target);
                if (taker != null) {
                    giveValue(taker, task.target, task.value);
                } else {
                    channel.addFirst(task.value);
                }
            }
        }

        /** Whether a TAKE of a CHANNEL finds a VALUE. */
        boolean hasValue(int number) {
            Channel channel = channelAt(number);
            return channel != null && (channel.count > 0 || firstWaiting(WAIT_SEND, number) != null);
        }

        /** Takes the first VALUE of a CHANNEL that has one, in it or of a TASK that WAITS with it. */
        int takeValue(int number) {
            Channel channel = channelAt(number);
            if (channel == null) {
                return 0;
            }
            Task sender = firstWaiting(WAIT_SEND, number);
            int value = channel.first();
            if (channel.count == 0 && sender != null) {
                value = sender.value;
            } else if (sender != null) {
                channel.dropFirst();
                channel.addLast(sender.value);
            } else {
                channel.dropFirst();
            }
            if (sender != null) {
                makeReady(sender);
            }
            channel.taken++;
            return value;
        }

        boolean allEnded() {
            for (Channel channel : channels) {
                if (!channel.ended) {
                    return false;
                }
            }
            return true;
        }

        /** A CHANNEL has an END: those who WAIT in vain are READY, in the order in which they began to WAIT. */
        void putEnd(int number) {
            Channel channel = channelAt(number);
            if (channel == null) {
                return;
            }
            channel.ended = true;
            boolean picksToo = allEnded();
            for (int i = 0; i < TASKS_MOST; i++) {
                Task task = firstInVain(number, picksToo);
                if (task == null) {
                    return;
                }
                task.fault = task.behind == WAIT_SEND ? FAIL_ENDED : FAIL_NO_VALUE;
                makeReady(task);
            }
        }

        /** The one that WAITS longest at a CHANNEL that has an END now; null without one. */
        Task firstInVain(int number, boolean picksToo) {
            Task first = null;
            for (Task task : tasks) {
                boolean waits = task.state == TASK_WAITS
                    && (task.behind == WAIT_SEND || task.behind == WAIT_VALUE)
                    && (task.picks ? picksToo : task.target == number);
                if (waits && (first == null || task.since < first.since)) {
                    first = task;
                }
            }
            return first;
        }
    }

    /** Does the turns of a state. */
    private static final class Runner {
        final Program program;
        final State state;
        int linesOfTurn;

        Runner(Program program, State state) {
            this.program = program;
            this.state = state;
        }

        /** Returns how many turns were done. */
        int takeTurns(int most) {
            int done = 0;
            while (done < most) {
                Task task = state.takeReady();
                if (task == null) {
                    return done;
                }
                done++;
                state.turns++;
                linesOfTurn = 0;
                int way = beginTurn(task);
                for (int step = 0; step < STEPS_OF_A_TURN && way != WAY_TURN_ENDS; step++) {
                    way = way == WAY_GO ? goOn(task) : leave(task, way);
                }
            }
            return done;
        }

        /** What a turn begins with, by what the TASK WAITED for. */
        int beginTurn(Task task) {
            int behind = task.behind;
            if (behind == WAIT_NOTHING) {
                return WAY_GO;
            }
            if (behind == WAIT_SCOPE) {
                return takeOffScope(task);
            }
            if (state.isHit(task, NONE)) {
                state.giveBack(task, behind);
                return WAY_CANCEL;
            }
            if (task.fault > 0) {
                return task.fault;
            }
            if (behind == WAIT_VALUE) {
                task.there = task.value;
                if (task.picks) {
                    task.putLocal(PICK_LOCAL, task.target);
                }
            }
            return next(task);
        }

        int next(Task task) {
            task.line++;
            return WAY_GO;
        }

        /** Begins the LINE that is next, or what is in place of it. */
        int goOn(Task task) {
            int place = program.placeOf(task.body, task.line);
            if (place == NONE || task.line >= program.linesOf(task.body)) {
                return WAY_RETURN;
            }
            if (linesOfTurn >= LINES_OF_A_TURN) {
                return FAIL_TOO_LONG;
            }
            linesOfTurn++;
            state.lines++;
            int kind = program.kinds[place];
            if (isWait(kind) && state.isHit(task, NONE)) {
                return WAY_CANCEL;
            }
            return doLine(task, kind, program.firsts[place], program.seconds[place]);
        }

        static boolean isWait(int kind) {
            switch (kind) {
                case SLEEP:
                case LOCK:
                case SEND:
                case TAKE:
                case PICK: return true;
                default: return false;
            }
        }

        int doLine(Task task, int kind, int a, int b) {
            switch (kind) {
                case ADD: return add(task, a);
                case GET: return get(task, a);
                case PUT: return put(task, a);
                case LOOP: return loop(task, a, b);
                case SKIP: return skip(task, b);
                case RETURN: return WAY_RETURN;
                case FAIL: return a;
                case OPEN: return open(task, false, a > 0 ? state.now + a : NONE, b);
                case SHIELD: return open(task, true, NONE, b);
                case SHUT: return task.top == NONE ? FAIL_NO_SCOPE : WAY_DONE;
                case SPAWN: return spawn(task, a);
                case STOP: return stop(task);
                case SLEEP: return sleep(task, a);
                case LOCK: return lock(task, a);
                case FREE: return free(task, a);
                case SEND: return send(task, a);
                case TAKE: return take(task, a);
                case END: return end(task, a);
                case PICK: return pick(task);
                default: return WAY_RETURN;
            }
        }

        int add(Task task, int a) {
            task.there = Math.max(-THERE_MOST, Math.min(THERE_MOST, task.there + a));
            return next(task);
        }

        int get(Task task, int a) {
            task.there = task.localAt(a);
            return next(task);
        }

        int put(Task task, int a) {
            task.putLocal(a, task.there);
            return next(task);
        }

        int loop(Task task, int a, int b) {
            int left = task.localAt(a);
            if (left <= 0) {
                return next(task);
            }
            task.putLocal(a, left - 1);
            task.line = b;
            return WAY_GO;
        }

        int skip(Task task, int b) {
            if (task.there > 0) {
                return next(task);
            }
            task.line = b;
            return WAY_GO;
        }

        int open(Task task, boolean isShield, int deadline, int line) {
            Scope scope = state.scopeAt(state.scopeCount);
            if (scope == null) {
                return FAIL_SCOPES;
            }
            scope.begin(task, isShield, deadline, line);
            state.scopeCount++;
            task.top = scope.number;
            task.depth++;
            return next(task);
        }

        int spawn(Task task, int body) {
            Scope scope = state.scopeAt(task.top);
            if (scope == null) {
                return FAIL_NO_SCOPE;
            }
            int made = body < program.bodies ? state.makeTask(body, scope.number) : NONE;
            if (made == NONE) {
                return FAIL_NO_TASK;
            }
            scope.entered++;
            task.there = made;
            return next(task);
        }

        int stop(Task task) {
            Scope scope = state.scopeAt(task.top);
            if (scope == null) {
                return FAIL_NO_SCOPE;
            }
            state.cancelScope(scope);
            return next(task);
        }

        int sleep(Task task, int a) {
            state.beginWait(task, WAIT_SLEEP, NONE);
            task.until = state.now + a;
            return WAY_TURN_ENDS;
        }

        int lock(Task task, int number) {
            Lock lock = state.lockAt(number);
            if (lock == null || lock.holder == task.number) {
                return FAIL_LOCK;
            }
            if (lock.holder == NONE) {
                lock.giveTo(task);
                return next(task);
            }
            state.beginWait(task, WAIT_LOCK, number);
            return WAY_TURN_ENDS;
        }

        int free(Task task, int number) {
            Lock lock = state.lockAt(number);
            if (lock == null || lock.holder != task.number) {
                return FAIL_LOCK;
            }
            state.freeLock(lock);
            return next(task);
        }

        int send(Task task, int number) {
            Channel channel = state.channelAt(number);
            if (channel == null || channel.ended) {
                return FAIL_ENDED;
            }
            Task taker = state.firstWaiting(WAIT_VALUE, number);
            if (taker != null) {
                state.giveValue(taker, number, task.there);
                return next(task);
            }
            if (channel.count < channel.room) {
                channel.addLast(task.there);
                return next(task);
            }
            state.beginWait(task, WAIT_SEND, number);
            task.value = task.there;
            return WAY_TURN_ENDS;
        }

        int take(Task task, int number) {
            if (state.hasValue(number)) {
                task.there = state.takeValue(number);
                return next(task);
            }
            Channel channel = state.channelAt(number);
            if (channel == null || channel.ended) {
                return FAIL_NO_VALUE;
            }
            state.beginWait(task, WAIT_VALUE, number);
            return WAY_TURN_ENDS;
        }

        int pick(Task task) {
            for (int number = 0; number < CHANNELS; number++) {
                if (state.hasValue(number)) {
                    task.there = state.takeValue(number);
                    task.putLocal(PICK_LOCAL, number);
                    return next(task);
                }
            }
            if (state.allEnded()) {
                return FAIL_NO_VALUE;
            }
            state.beginWait(task, WAIT_VALUE, NONE);
            task.picks = true;
            return WAY_TURN_ENDS;
        }

        int end(Task task, int number) {
            Channel channel = state.channelAt(number);
            if (channel == null || channel.ended) {
                return FAIL_ENDED;
            }
            state.putEnd(number);
            return next(task);
        }

        /** Leaves the innermost SCOPE by a way; without one the TASK is OVER. */
        int leave(Task task, int way) {
            Scope scope = state.scopeAt(task.top);
            if (scope == null) {
                endTask(task, way);
                return WAY_TURN_ENDS;
            }
            if (way > 0) {
                state.cancelScope(scope);
            }
            scope.state = SCOPE_LEAVING;
            scope.leavingFor = way;
            if (scope.over < scope.entered) {
                state.beginWait(task, WAIT_SCOPE, scope.number);
                return WAY_TURN_ENDS;
            }
            scope.state = SCOPE_CLOSED;
            return takeOffScope(task);
        }

        /** Takes the CLOSED innermost SCOPE off the STACK; returns the way behind it. */
        int takeOffScope(Task task) {
            Scope scope = state.scopeAt(task.top);
            if (scope == null) {
                return WAY_RETURN;
            }
            task.top = scope.below;
            task.depth--;
            int way = scope.leavingFor;
            Task failed = state.taskAt(scope.firstFailed);
            if (way <= 0 && failed != null) {
                return failed.there;
            }
            if (way == WAY_DONE || way == WAY_CANCEL && scope.cancelled) {
                task.there = scope.cancelled ? 1 : 0;
                task.line = scope.goesOnAt;
                return WAY_GO;
            }
            return way;
        }

        void endTask(Task task, int way) {
            task.state = way > 0 ? TASK_FAILED : way == WAY_CANCEL ? TASK_DROPPED : TASK_RETURNED;
            if (way > 0) {
                task.there = way;
            }
            for (Lock lock : state.locks) {
                if (lock.holder == task.number) {
                    state.freeLock(lock);
                }
            }
            Scope scope = state.scopeAt(task.in);
            if (scope != null) {
                tellOver(task, scope);
            }
        }

        /** A TASK that was IN a SCOPE is OVER. */
        void tellOver(Task task, Scope scope) {
            scope.over++;
            if (task.state == TASK_FAILED) {
                scope.failed++;
                if (scope.firstFailed == NONE) {
                    scope.firstFailed = task.number;
                }
                state.cancelScope(scope);
            }
            if (scope.state == SCOPE_LEAVING && scope.over >= scope.entered) {
                scope.state = SCOPE_CLOSED;
                Task opener = state.taskAt(scope.opener);
                if (opener != null && opener.waitsAt(WAIT_SCOPE)) {
                    state.makeReady(opener);
                }
            }
        }
    }

    /** What is asked of a state. */
    private static final class Answers {
        final Program program;
        final State state;

        Answers(Program program, State state) {
            this.program = program;
            this.state = state;
        }

        int aboutTask(int number, int what) {
            Task task = state.taskAt(number);
            if (task == null) {
                return NONE;
            }
            switch (what) {
                case 0: return task.body;
                case 1: return task.state;
                case 2: return task.isOver() ? NONE : task.line;
                case 3: return task.there;
                case 4: return task.in;
                case 5: return task.depth;
                case 6: return placeInRow(task);
                case 7: return !task.isOver() && state.isHit(task, NONE) ? 1 : 0;
                default: return task.state == TASK_WAITS ? task.behind : WAIT_NOTHING;
            }
        }

        int placeInRow(Task task) {
            for (int i = 0; i < state.rowCount && i < TASKS_MOST; i++) {
                if (state.row[i] == task.number) {
                    return i;
                }
            }
            return NONE;
        }

        int aboutLocal(int number, int place) {
            Task task = state.taskAt(number);
            return task != null ? task.localAt(place) : NONE;
        }

        int aboutScope(int number, int what) {
            Scope scope = state.scopeAt(number);
            if (scope == null) {
                return NONE;
            }
            switch (what) {
                case 0: return scope.opener;
                case 1: return scope.state;
                case 2: return scope.cancelled ? 1 : 0;
                case 3: return scope.deadline;
                case 4: return scope.shield ? 1 : 0;
                case 5: return scope.entered;
                case 6: return scope.over;
                case 7: return scope.failed;
                default: return scope.firstFailed;
            }
        }

        int aboutLock(int number, int what) {
            Lock lock = state.lockAt(number);
            if (lock == null) {
                return NONE;
            }
            Task first = state.firstWaiting(WAIT_LOCK, number);
            switch (what) {
                case 0: return lock.holder;
                case 1: return countWaiting(WAIT_LOCK, number);
                case 2: return first != null ? first.number : NONE;
                default: return lock.heldEver;
            }
        }

        int aboutChannel(int number, int what) {
            Channel channel = state.channelAt(number);
            if (channel == null) {
                return NONE;
            }
            switch (what) {
                case 0: return channel.room;
                case 1: return channel.count;
                case 2: return channel.first();
                case 3: return countWaiting(WAIT_SEND, number);
                case 4: return countWaiting(WAIT_VALUE, number);
                case 5: return channel.ended ? 1 : 0;
                default: return channel.taken;
            }
        }

        int countWaiting(int what, int target) {
            int count = 0;
            for (Task task : state.tasks) {
                if (state.waitsFor(task, what, target)) {
                    count++;
                }
            }
            return count;
        }

        int howMany(int what) {
            switch (what) {
                case 0: return program.bodies;
                case 1: return state.taskCount;
                case 2: return countTasks(TASK_READY);
                case 3: return countTasks(TASK_WAITS);
                case 4: return countTasks(TASK_RETURNED);
                case 5: return countTasks(TASK_FAILED);
                case 6: return countTasks(TASK_DROPPED);
                case 7: return state.scopeCount;
                case 8: return countLiveScopes();
                case 9: return countCancelledScopes();
                case 10: return state.now;
                case 11: return state.turns;
                default: return state.lines;
            }
        }

        int countTasks(int taskState) {
            int count = 0;
            for (Task task : state.tasks) {
                if (task.state == taskState) {
                    count++;
                }
            }
            return count;
        }

        int countOver() {
            int count = 0;
            for (Task task : state.tasks) {
                if (task.isOver()) {
                    count++;
                }
            }
            return count;
        }

        int countLiveScopes() {
            int count = 0;
            for (Scope scope : state.scopes) {
                if (scope.isLive()) {
                    count++;
                }
            }
            return count;
        }

        int countCancelledScopes() {
            int count = 0;
            for (Scope scope : state.scopes) {
                if (scope.state != NONE && scope.cancelled) {
                    count++;
                }
            }
            return count;
        }

        int countStuck() {
            for (Scope scope : state.scopes) {
                if (scope.isLive() && scope.deadline > state.now) {
                    return 0;
                }
            }
            for (Task task : state.tasks) {
                if (task.state == TASK_READY || task.waitsAt(WAIT_SLEEP)) {
                    return 0;
                }
            }
            return countTasks(TASK_WAITS);
        }

        /** How many TASKS would become HIT, if a SCOPE was CANCELLED now. */
        int countNewlyHit(int scope) {
            int count = 0;
            for (Task task : state.tasks) {
                boolean goesOn = task.state == TASK_READY || task.state == TASK_WAITS;
                if (goesOn && !state.isHit(task, NONE) && state.isHit(task, scope)) {
                    count++;
                }
            }
            return count;
        }

        long digestTasks(long before) {
            long d = before;
            for (int task = 0; task < state.taskCount; task++) {
                for (int what = 0; what <= OF_TASK_MOST; what++) {
                    d = d * 31 + aboutTask(task, what);
                }
                for (int place = 0; place < LOCALS; place++) {
                    d = d * 31 + aboutLocal(task, place);
                }
            }
            return d;
        }

        long digestScopes(long before) {
            long d = before;
            for (int scope = 0; scope < state.scopeCount; scope++) {
                for (int what = 0; what <= OF_SCOPE_MOST; what++) {
                    d = d * 31 + aboutScope(scope, what);
                }
                d = d * 31 + countNewlyHit(scope);
            }
            return d;
        }

        long digestLocksAndChannels(long before) {
            long d = before;
            for (int lock = 0; lock < LOCKS; lock++) {
                for (int what = 0; what <= OF_LOCK_MOST; what++) {
                    d = d * 31 + aboutLock(lock, what);
                }
            }
            for (int channel = 0; channel < CHANNELS; channel++) {
                for (int what = 0; what <= OF_CHANNEL_MOST; what++) {
                    d = d * 31 + aboutChannel(channel, what);
                }
            }
            return d;
        }
    }
}
