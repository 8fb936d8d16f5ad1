import java.util.ArrayList;
import java.util.LinkedList;
import java.util.List;

/**
 * The document once more, written otherwise: with a STACK for each TASK and a row for all that WAIT for one thing.
 * What would be is asked of a second model that was told all calls again.
 */
final class Model {
    enum Way { GO, DONE, RETURN, CANCEL, FAIL, END_OF_TURN }

    static final class Body {
        final List<int[]> lines = new ArrayList<>();
    }

    static final class Scope {
        int number;
        Task opener;
        String is = "open";
        boolean cancelled;
        boolean shield;
        int deadline = -1;
        int goesOn;
        Way leaves;
        int leavesWith;
        final List<Task> in = new ArrayList<>();
        final List<Task> failed = new ArrayList<>();

        boolean allOver() {
            for (Task task : in) {
                if (!task.over()) {
                    return false;
                }
            }
            return true;
        }
    }

    static final class Task {
        int number;
        int body;
        /** ready, waits, returned, failed, dropped. */
        String is = "ready";
        int line;
        int there;
        final int[] locals = new int[4];
        Scope in;
        final LinkedList<Scope> stack = new LinkedList<>();
        /** What it WAITS for, or WAITED. */
        String at = "";
        int wakes;
        int value;
        int failure;
        boolean pick;
        Lock gotLock;
        Channel gotFrom;

        boolean over() {
            return is.equals("returned") || is.equals("failed") || is.equals("dropped");
        }
    }

    static final class Lock {
        Task holder;
        int ever;
        final LinkedList<Task> waiting = new LinkedList<>();
    }

    static final class Channel {
        int number;
        int room = 1;
        final LinkedList<Integer> values = new LinkedList<>();
        final LinkedList<Task> senders = new LinkedList<>();
        final LinkedList<Task> takers = new LinkedList<>();
        boolean end;
        int taken;
    }

    final List<int[]> told = new ArrayList<>();
    final List<Body> bodies = new ArrayList<>();
    final List<Task> tasks = new ArrayList<>();
    final List<Scope> scopes = new ArrayList<>();
    final Lock[] locks = {new Lock(), new Lock()};
    final Channel[] channels = {new Channel(), new Channel()};
    final LinkedList<Task> ready = new LinkedList<>();
    int now;
    int turns;
    int lines;
    int begun;
    int failure;

    Model() {
        channels[1].number = 1;
    }

    // ---- calls that change

    int body() {
        if (bodies.size() == 8) {
            throw new IllegalStateException();
        }
        told.add(new int[] {0});
        bodies.add(new Body());
        return bodies.size() - 1;
    }

    int line(int body, int kind, int a, int b) {
        index(body, bodies.size());
        int own = bodies.get(body).lines.size();
        if (!right(kind, a, b, own)) {
            throw new IllegalArgumentException();
        }
        boolean made = tasks.stream().anyMatch(t -> t.body == body);
        if (own == 12 || made) {
            throw new IllegalStateException();
        }
        told.add(new int[] {1, body, kind, a, b});
        bodies.get(body).lines.add(new int[] {kind, a, b});
        return own;
    }

    static boolean right(int kind, int a, int b, int own) {
        boolean noA = a == 0;
        boolean noB = b == 0;
        boolean two = a == 0 || a == 1;
        boolean local = a >= 0 && a <= 3;
        boolean ahead = b > own && b <= 12;
        return switch (kind) {
            case 0 -> Math.abs((long) a) <= 99 && noB;
            case 1, 2 -> local && noB;
            case 3 -> local && b >= 0 && b <= own;
            case 4, 8 -> noA && ahead;
            case 5, 9, 11, 18 -> noA && noB;
            case 6 -> a >= 1 && a <= 7 && noB;
            case 7 -> a >= 0 && a <= 20 && ahead;
            case 10 -> a >= 0 && a <= 7 && noB;
            case 12 -> a >= 1 && a <= 9 && noB;
            case 13, 14, 15, 16, 17 -> two && noB;
            default -> false;
        };
    }

    int room(int channel, int room) {
        index(channel, 2);
        within(room, 0, 3);
        if (!tasks.isEmpty()) {
            throw new IllegalStateException();
        }
        told.add(new int[] {2, channel, room});
        int before = channels[channel].room;
        channels[channel].room = room;
        return before;
    }

    int start(int body) {
        index(body, bodies.size());
        if (tasks.size() == 24) {
            throw new IllegalStateException();
        }
        told.add(new int[] {3, body});
        return make(body, null).number;
    }

    int run(int most) {
        within(most, 1, 50);
        told.add(new int[] {4, most});
        int done = 0;
        for (; done < most && !ready.isEmpty(); done++) {
            turn();
        }
        return done;
    }

    int tick(int ticks) {
        within(ticks, 1, 20);
        told.add(new int[] {5, ticks});
        int before = ready.size();
        for (int i = 0; i < ticks; i++) {
            now++;
            for (Scope scope : scopes) {
                if (scope.deadline == now) {
                    cancelled(scope);
                }
            }
            for (Task task : tasks) {
                if (task.is.equals("waits") && task.at.equals("sleep") && task.wakes == now) {
                    wake(task);
                }
            }
        }
        return ready.size() - before;
    }

    boolean cancel(int scope) {
        index(scope, scopes.size());
        told.add(new int[] {6, scope});
        return cancelled(scopes.get(scope));
    }

    Model again() {
        Model other = new Model();
        for (int[] call : told) {
            switch (call[0]) {
                case 0 -> other.body();
                case 1 -> other.line(call[1], call[2], call[3], call[4]);
                case 2 -> other.room(call[1], call[2]);
                case 3 -> other.start(call[1]);
                case 4 -> other.run(call[1]);
                case 5 -> other.tick(call[1]);
                default -> other.cancel(call[1]);
            }
        }
        return other;
    }

    // ---- calls that ask

    int ofTask(int number, int what) {
        index(number, tasks.size());
        within(what, 0, 8);
        Task task = tasks.get(number);
        return switch (what) {
            case 0 -> task.body;
            case 1 -> List.of("ready", "waits", "returned", "failed", "dropped").indexOf(task.is);
            case 2 -> task.over() ? -1 : task.line;
            case 3 -> task.is.equals("failed") ? task.failure : task.there;
            case 4 -> task.in == null ? -1 : task.in.number;
            case 5 -> task.stack.size();
            case 6 -> ready.indexOf(task);
            case 7 -> !task.over() && hit(task, null) ? 1 : 0;
            default -> !task.is.equals("waits") ? 0
                : List.of("", "sleep", "lock", "send", "value", "scope").indexOf(task.at);
        };
    }

    int local(int number, int local) {
        index(number, tasks.size());
        index(local, 4);
        return tasks.get(number).locals[local];
    }

    int ofScope(int number, int what) {
        index(number, scopes.size());
        within(what, 0, 8);
        Scope scope = scopes.get(number);
        return switch (what) {
            case 0 -> scope.opener.number;
            case 1 -> List.of("open", "leaving", "closed").indexOf(scope.is);
            case 2 -> scope.cancelled ? 1 : 0;
            case 3 -> scope.deadline;
            case 4 -> scope.shield ? 1 : 0;
            case 5 -> scope.in.size();
            case 6 -> (int) scope.in.stream().filter(Task::over).count();
            case 7 -> scope.failed.size();
            default -> scope.failed.isEmpty() ? -1 : scope.failed.get(0).number;
        };
    }

    int ofLock(int number, int what) {
        index(number, 2);
        within(what, 0, 3);
        Lock lock = locks[number];
        return switch (what) {
            case 0 -> lock.holder == null ? -1 : lock.holder.number;
            case 1 -> lock.waiting.size();
            case 2 -> lock.waiting.isEmpty() ? -1 : lock.waiting.getFirst().number;
            default -> lock.ever;
        };
    }

    int ofChannel(int number, int what) {
        index(number, 2);
        within(what, 0, 6);
        Channel channel = channels[number];
        return switch (what) {
            case 0 -> channel.room;
            case 1 -> channel.values.size();
            case 2 -> channel.values.isEmpty() ? 0 : channel.values.getFirst();
            case 3 -> channel.senders.size();
            case 4 -> channel.takers.size();
            case 5 -> channel.end ? 1 : 0;
            default -> channel.taken;
        };
    }

    int many(int what) {
        within(what, 0, 12);
        return switch (what) {
            case 0 -> bodies.size();
            case 1 -> tasks.size();
            case 2 -> count("ready");
            case 3 -> count("waits");
            case 4 -> count("returned");
            case 5 -> count("failed");
            case 6 -> count("dropped");
            case 7 -> scopes.size();
            case 8 -> (int) scopes.stream().filter(s -> !s.is.equals("closed")).count();
            case 9 -> (int) scopes.stream().filter(s -> s.cancelled).count();
            case 10 -> now;
            case 11 -> turns;
            default -> lines;
        };
    }

    double meanLines() {
        return tasks.isEmpty() ? 0 : (double) lines / tasks.size();
    }

    int stuck() {
        boolean goesOn = !ready.isEmpty()
            || tasks.stream().anyMatch(t -> t.is.equals("waits") && t.at.equals("sleep"))
            || scopes.stream().anyMatch(s -> !s.is.equals("closed") && s.deadline > now);
        return goesOn ? 0 : count("waits");
    }

    int wouldHit(int scope) {
        index(scope, scopes.size());
        Scope also = scopes.get(scope);
        return (int) tasks.stream().filter(t -> !t.over() && !hit(t, null) && hit(t, also)).count();
    }

    int overBy(int ticks, int most) {
        within(ticks, 1, 20);
        within(most, 1, 50);
        Model other = again();
        for (int i = 0; i < ticks; i++) {
            other.tick(1);
            other.run(most);
        }
        return (int) other.tasks.stream().filter(Task::over).count();
    }

    boolean isClosedBy(int scope, int most) {
        index(scope, scopes.size());
        within(most, 1, 50);
        Model other = again();
        other.cancel(scope);
        other.run(most);
        return other.scopes.get(scope).is.equals("closed");
    }

    int thereBy(int task, int most) {
        index(task, tasks.size());
        within(most, 1, 50);
        Model other = again();
        other.run(most);
        return other.ofTask(task, 3);
    }

    long digest() {
        List<Integer> all = new ArrayList<>();
        for (int what = 0; what <= 12; what++) {
            all.add(many(what));
        }
        for (Task task : tasks) {
            for (int what = 0; what <= 8; what++) {
                all.add(ofTask(task.number, what));
            }
            for (int local : task.locals) {
                all.add(local);
            }
        }
        for (Scope scope : scopes) {
            for (int what = 0; what <= 8; what++) {
                all.add(ofScope(scope.number, what));
            }
            all.add(wouldHit(scope.number));
        }
        for (int lock = 0; lock < 2; lock++) {
            for (int what = 0; what <= 3; what++) {
                all.add(ofLock(lock, what));
            }
        }
        for (int channel = 0; channel < 2; channel++) {
            for (int what = 0; what <= 6; what++) {
                all.add(ofChannel(channel, what));
            }
        }
        all.add(stuck());
        all.add(overBy(1, 10));
        all.add(overBy(5, 10));
        long d = 7614;
        for (int v : all) {
            d = d * 31 + v;
        }
        return d;
    }

    // ---- how it goes on

    private static void index(int number, int count) {
        if (number < 0 || number >= count) {
            throw new IndexOutOfBoundsException();
        }
    }

    private static void within(int value, int lowest, int highest) {
        if (value < lowest || value > highest) {
            throw new IllegalArgumentException();
        }
    }

    private int count(String is) {
        return (int) tasks.stream().filter(t -> t.is.equals(is)).count();
    }

    private Task make(int body, Scope in) {
        Task task = new Task();
        task.number = tasks.size();
        task.body = body;
        task.in = in;
        tasks.add(task);
        ready.add(task);
        return task;
    }

    /** It WAITS no more: it stands in no row but that of the READY ones. */
    private void wake(Task task) {
        for (Lock lock : locks) {
            lock.waiting.remove(task);
        }
        for (Channel channel : channels) {
            channel.senders.remove(task);
            channel.takers.remove(task);
        }
        task.is = "ready";
        ready.add(task);
    }

    private boolean hit(Task task, Scope also) {
        List<Scope> outwards = new ArrayList<>();
        for (int i = task.stack.size() - 1; i >= 0; i--) {
            outwards.add(task.stack.get(i));
        }
        for (Scope in = task.in; in != null; in = in.opener.in) {
            for (int i = in.opener.stack.indexOf(in); i >= 0; i--) {
                outwards.add(in.opener.stack.get(i));
            }
        }
        for (Scope scope : outwards) {
            if (scope.is.equals("closed")) {
                continue;
            }
            if (scope.cancelled || scope == also) {
                return true;
            }
            if (scope.shield) {
                return false;
            }
        }
        return false;
    }

    private boolean cancelled(Scope scope) {
        if (scope.cancelled || scope.is.equals("closed")) {
            return false;
        }
        scope.cancelled = true;
        for (Task task : tasks) {
            if (task.is.equals("waits") && !task.at.equals("scope") && hit(task, null)) {
                wake(task);
            }
        }
        return true;
    }

    private void turn() {
        Task task = ready.removeFirst();
        turns++;
        begun = 0;
        Way way = resume(task);
        while (way != Way.END_OF_TURN) {
            way = way == Way.GO ? goOn(task) : leave(task, way);
        }
    }

    private Way fail(int k) {
        failure = k;
        return Way.FAIL;
    }

    private Way resume(Task task) {
        String at = task.at;
        task.at = "";
        if (at.equals("")) {
            return Way.GO;
        }
        if (at.equals("scope")) {
            return off(task);
        }
        Lock lock = task.gotLock;
        Channel from = task.gotFrom;
        task.gotLock = null;
        task.gotFrom = null;
        if (hit(task, null)) {
            if (lock != null) {
                freed(lock);
            }
            if (from != null) {
                from.taken--;
                if (from.takers.isEmpty()) {
                    from.values.addFirst(task.value);
                } else {
                    give(from, task.value);
                }
            }
            return Way.CANCEL;
        }
        if (task.failure != 0) {
            return fail(task.failure);
        }
        if (from != null) {
            task.there = task.value;
            if (task.pick) {
                task.locals[3] = from.number;
            }
        }
        task.line++;
        return Way.GO;
    }

    private void freed(Lock lock) {
        lock.holder = null;
        if (!lock.waiting.isEmpty()) {
            Task next = lock.waiting.getFirst();
            lock.holder = next;
            lock.ever++;
            next.gotLock = lock;
            wake(next);
        }
    }

    private void give(Channel channel, int value) {
        Task taker = channel.takers.getFirst();
        taker.value = value;
        taker.gotFrom = channel;
        channel.taken++;
        wake(taker);
    }

    private Way waits(Task task, String at) {
        task.is = "waits";
        task.at = at;
        task.failure = 0;
        task.pick = false;
        return Way.END_OF_TURN;
    }

    private Way goOn(Task task) {
        List<int[]> all = bodies.get(task.body).lines;
        if (task.line >= all.size()) {
            return Way.RETURN;
        }
        if (begun == 100) {
            return fail(7);
        }
        begun++;
        lines++;
        int[] line = all.get(task.line);
        int a = line[1];
        int b = line[2];
        if (List.of(12, 13, 15, 16, 18).contains(line[0]) && hit(task, null)) {
            return Way.CANCEL;
        }
        Scope inner = task.stack.isEmpty() ? null : task.stack.getLast();
        int goesOn = task.line + 1;
        switch (line[0]) {
            case 0 -> {
                task.there += a;
                if (task.there > 9999) {
                    task.there = 9999;
                }
                if (task.there < -9999) {
                    task.there = -9999;
                }
            }
            case 1 -> task.there = task.locals[a];
            case 2 -> task.locals[a] = task.there;
            case 3 -> {
                if (task.locals[a] > 0) {
                    task.locals[a]--;
                    goesOn = b;
                }
            }
            case 4 -> goesOn = task.there <= 0 ? b : goesOn;
            case 5 -> {
                return Way.RETURN;
            }
            case 6 -> {
                return fail(a);
            }
            case 7, 8 -> {
                if (scopes.size() == 40) {
                    return fail(3);
                }
                Scope scope = new Scope();
                scope.number = scopes.size();
                scope.opener = task;
                scope.shield = line[0] == 8;
                scope.deadline = a == 0 ? -1 : now + a;
                scope.goesOn = b;
                scopes.add(scope);
                task.stack.addLast(scope);
            }
            case 9 -> {
                return inner == null ? fail(1) : Way.DONE;
            }
            case 10 -> {
                if (inner == null) {
                    return fail(1);
                }
                if (a >= bodies.size() || tasks.size() == 24) {
                    return fail(2);
                }
                Task made = make(a, inner);
                inner.in.add(made);
                task.there = made.number;
            }
            case 11 -> {
                if (inner == null) {
                    return fail(1);
                }
                cancelled(inner);
            }
            case 12 -> {
                task.wakes = now + a;
                return waits(task, "sleep");
            }
            default -> {
                return atLockOrChannel(task, line[0], a);
            }
        }
        task.line = goesOn;
        return Way.GO;
    }

    private Way atLockOrChannel(Task task, int kind, int a) {
        Lock lock = locks[a];
        Channel channel = channels[a];
        switch (kind) {
            case 13 -> {
                if (lock.holder == task) {
                    return fail(4);
                }
                if (lock.holder != null) {
                    lock.waiting.addLast(task);
                    return waits(task, "lock");
                }
                lock.holder = task;
                lock.ever++;
            }
            case 14 -> {
                if (lock.holder != task) {
                    return fail(4);
                }
                freed(lock);
            }
            case 15 -> {
                if (channel.end) {
                    return fail(5);
                }
                if (!channel.takers.isEmpty()) {
                    give(channel, task.there);
                } else if (channel.values.size() < channel.room) {
                    channel.values.addLast(task.there);
                } else {
                    task.value = task.there;
                    channel.senders.addLast(task);
                    return waits(task, "send");
                }
            }
            case 16 -> {
                if (!took(task, channel)) {
                    if (channel.end) {
                        return fail(6);
                    }
                    channel.takers.addLast(task);
                    return waits(task, "value");
                }
            }
            case 17 -> {
                if (channel.end) {
                    return fail(5);
                }
                ended(channel);
            }
            default -> {
                if (took(task, channels[0])) {
                    task.locals[3] = 0;
                } else if (took(task, channels[1])) {
                    task.locals[3] = 1;
                } else if (channels[0].end && channels[1].end) {
                    return fail(6);
                } else {
                    channels[0].takers.addLast(task);
                    channels[1].takers.addLast(task);
                    waits(task, "value");
                    task.pick = true;
                    return Way.END_OF_TURN;
                }
            }
        }
        task.line++;
        return Way.GO;
    }

    private boolean took(Task task, Channel channel) {
        if (channel.values.isEmpty() && channel.senders.isEmpty()) {
            return false;
        }
        // With none in it the first one comes in, to be taken at once.
        boolean comesFirst = channel.values.isEmpty();
        if (!channel.senders.isEmpty()) {
            Task sender = channel.senders.getFirst();
            if (comesFirst) {
                channel.values.addFirst(sender.value);
            } else {
                channel.values.addLast(sender.value);
            }
            wake(sender);
        }
        task.there = channel.values.removeFirst();
        channel.taken++;
        return true;
    }

    private void ended(Channel channel) {
        channel.end = true;
        for (Task sender : new ArrayList<>(channel.senders)) {
            sender.failure = 5;
            wake(sender);
        }
        // Nobody WAITS for a VALUE of it while another WAITS with one, so one row is all there is.
        for (Task taker : new ArrayList<>(channel.takers)) {
            if (!taker.pick || channels[0].end && channels[1].end) {
                taker.failure = 6;
                wake(taker);
            }
        }
    }

    private Way leave(Task task, Way way) {
        if (task.stack.isEmpty()) {
            over(task, way);
            return Way.END_OF_TURN;
        }
        Scope scope = task.stack.getLast();
        if (way == Way.FAIL) {
            cancelled(scope);
            scope.leavesWith = failure;
        }
        scope.is = "leaving";
        scope.leaves = way;
        if (!scope.allOver()) {
            return waits(task, "scope");
        }
        scope.is = "closed";
        return off(task);
    }

    private Way off(Task task) {
        Scope scope = task.stack.removeLast();
        if (scope.leaves == Way.FAIL) {
            return fail(scope.leavesWith);
        }
        if (!scope.failed.isEmpty()) {
            return fail(scope.failed.get(0).failure);
        }
        boolean done = scope.leaves == Way.DONE || scope.leaves == Way.CANCEL && scope.cancelled;
        if (!done) {
            return scope.leaves;
        }
        task.there = scope.cancelled ? 1 : 0;
        task.line = scope.goesOn;
        return Way.GO;
    }

    private void over(Task task, Way way) {
        switch (way) {
            case FAIL -> {
                task.is = "failed";
                task.failure = failure;
            }
            case CANCEL -> task.is = "dropped";
            default -> task.is = "returned";
        }
        for (Lock lock : locks) {
            if (lock.holder == task) {
                freed(lock);
            }
        }
        if (task.in == null) {
            return;
        }
        if (way == Way.FAIL) {
            task.in.failed.add(task);
            cancelled(task.in);
        }
        if (task.in.is.equals("leaving") && task.in.allOver()) {
            task.in.is = "closed";
            wake(task.in.opener);
        }
    }
}
