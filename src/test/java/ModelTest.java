import java.util.Random;
import java.util.function.LongSupplier;

/** Many runs of calls by fixed seeds, each answered by the class and by the second model alike. */
final class ModelTest {
    private static final int RUNS = 3000;
    private static final int CALLS = 150;

    private final Random random;
    private final ScopeRow x = new ScopeRow();
    private final Model model = new Model();
    private final int seed;
    private boolean same = true;

    private ModelTest(int seed) {
        this.seed = seed;
        this.random = new Random(seed);
    }

    static void all() {
        runs(0, RUNS);
    }

    static void runs(int from, int to) {
        Check.begin("second model");
        for (int seed = from; seed < to; seed++) {
            ModelTest test = new ModelTest(seed);
            test.go();
            Check.yes("run " + seed, test.same);
        }
    }

    private void go() {
        if (random.nextInt(3) > 0) {
            int channel = random.nextInt(2);
            int room = random.nextInt(4);
            same("room", () -> x.room(channel, room), () -> model.room(channel, room));
        }
        int bodies = 2 + random.nextInt(6);
        for (int i = 0; i < bodies; i++) {
            same("body", x::body, model::body);
        }
        for (int i = 0; i < bodies; i++) {
            writeBody(i);
        }
        for (int i = random.nextInt(4); i >= 0; i--) {
            call(0, random.nextInt(bodies));
        }
        for (int i = 0; same && i < CALLS; i++) {
            call(random.nextInt(26), wild(bodies));
            if (i % 32 == 8) {
                wouldBe();
            }
            if (i % 16 == 0) {
                same("digest", x::digest, model::digest);
            }
        }
        same("digest", x::digest, model::digest);
    }

    private void wouldBe() {
        int most = 1 + random.nextInt(12);
        for (int i = 0; i < model.tasks.size(); i++) {
            int task = i;
            same("thereBy", () -> x.thereBy(task, most), () -> model.thereBy(task, most));
        }
        for (int i = 0; i < model.scopes.size(); i++) {
            int scope = i;
            same("isClosedBy", () -> x.isClosedBy(scope, most) ? 1 : 0, () -> model.isClosedBy(scope, most) ? 1 : 0);
        }
    }

    /** Some kinds more often than others, so that TASKS meet in SCOPES, at LOCKS and at CHANNELS. */
    private static final int[] KINDS = {
        0, 0, 0, 1, 2, 2, 3, 4, 5, 6, 7, 7, 7, 7, 8, 8, 9, 9, 9, 10, 10, 10, 10, 10, 10, 11,
        12, 12, 12, 13, 13, 13, 14, 14, 15, 15, 15, 16, 16, 16, 17, 18, 18, 18
    };

    private void writeBody(int body) {
        int lines = random.nextInt(13);
        // One kind is left out of a whole body, so that these differ.
        int leftOut = random.nextInt(19);
        for (int own = 0; own < lines; own++) {
            boolean opens = own == 0 && random.nextInt(3) > 0;
            int kind = opens ? 7 + random.nextInt(2) : KINDS[random.nextInt(KINDS.length)];
            if (kind != leftOut) {
                write(body, kind, someA(kind), someB(kind, own));
            }
        }
    }

    private int someA(int kind) {
        return switch (kind) {
            case 0 -> random.nextInt(25) - 2;
            case 1, 2, 3 -> random.nextInt(4);
            case 6 -> 1 + random.nextInt(7);
            case 7 -> Math.max(0, random.nextInt(16) - 8);
            case 10 -> random.nextInt(8);
            case 12 -> 1 + random.nextInt(5);
            case 13, 14, 15, 16, 17 -> random.nextInt(2);
            default -> 0;
        };
    }

    private int someB(int kind, int own) {
        return switch (kind) {
            case 3 -> random.nextInt(own + 1);
            case 4, 7, 8 -> own + 1 + random.nextInt(12 - own);
            default -> 0;
        };
    }

    private void write(int body, int kind, int a, int b) {
        same("line", () -> x.line(body, kind, a, b), () -> model.line(body, kind, a, b));
    }

    private int wild(int usual) {
        int one = random.nextInt(60);
        if (one == 0) {
            return Integer.MIN_VALUE + random.nextInt(2);
        }
        if (one == 1) {
            return Integer.MAX_VALUE - random.nextInt(2);
        }
        return random.nextInt(usual + 2) - 1;
    }

    private void call(int which, int n) {
        int task = wild(Math.max(1, model.tasks.size()));
        int scope = wild(Math.max(1, model.scopes.size()));
        int what = wild(9);
        int most = wild(8);
        int two = wild(2);
        switch (which) {
            case 0, 1 -> same("start " + n, () -> x.start(n), () -> model.start(n));
            case 2, 3, 4, 5, 6 -> same("run " + most, () -> x.run(most), () -> model.run(most));
            case 7, 8, 9 -> same("tick " + two, () -> x.tick(two), () -> model.tick(two));
            case 10, 23, 24 -> same("cancel " + scope, () -> x.cancel(scope) ? 1 : 0, () -> model.cancel(scope) ? 1 : 0);
            case 11 -> same("ofTask", () -> x.ofTask(task, what), () -> model.ofTask(task, what));
            case 12 -> same("local", () -> x.local(task, two), () -> model.local(task, two));
            case 13 -> same("ofScope", () -> x.ofScope(scope, what), () -> model.ofScope(scope, what));
            case 14 -> same("ofLock", () -> x.ofLock(two, what), () -> model.ofLock(two, what));
            case 15 -> same("ofChannel", () -> x.ofChannel(two, what), () -> model.ofChannel(two, what));
            case 16 -> same("many", () -> x.many(what + 4), () -> model.many(what + 4));
            case 17 -> same("meanLines", () -> Double.doubleToLongBits(x.meanLines()),
                () -> Double.doubleToLongBits(model.meanLines()));
            case 18 -> same("stuck", x::stuck, model::stuck);
            case 19 -> same("wouldHit", () -> x.wouldHit(scope), () -> model.wouldHit(scope));
            case 20 -> same("overBy", () -> x.overBy(two, most), () -> model.overBy(two, most));
            case 21 -> same("isClosedBy", () -> x.isClosedBy(scope, most) ? 1 : 0,
                () -> model.isClosedBy(scope, most) ? 1 : 0);
            case 22 -> same("thereBy", () -> x.thereBy(task, most), () -> model.thereBy(task, most));
            default -> write(wild(8), wild(19), wild(9), wild(12));
        }
    }

    private void same(String what, LongSupplier got, LongSupplier due) {
        if (!same) {
            return;
        }
        String one = answer(got);
        String other = answer(due);
        if (!one.equals(other)) {
            same = false;
            System.out.println("second model, seed " + seed + ": " + what + " answered " + one + ", due is " + other);
        }
    }

    private static String answer(LongSupplier call) {
        try {
            return Long.toString(call.getAsLong());
        } catch (RuntimeException e) {
            return e.getClass().getName();
        }
    }
}
