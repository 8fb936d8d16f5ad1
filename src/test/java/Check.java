import java.util.function.LongSupplier;
import java.util.function.Supplier;

/** Counts what the tests find, and writes bodies for them. */
final class Check {
    /** A call with one number that has bounds. */
    interface Call {
        void of(ScopeRow x, int number);
    }

    private static final String[] KINDS = {
        "ADD", "GET", "PUT", "LOOP", "SKIP", "RETURN", "FAIL", "OPEN", "SHIELD", "SHUT", "SPAWN", "STOP",
        "SLEEP", "LOCK", "FREE", "SEND", "TAKE", "END", "PICK"
    };
    /** These have no a, and their b stands first in a text. */
    private static final String ONLY_B = " SKIP SHIELD ";

    private static int passed = 0;
    private static int failed = 0;
    private static String test = "";

    private Check() {
    }

    static void begin(String name) {
        test = name;
    }

    static void due(String what, double got, double want) {
        tell(got == want, what + " is " + got + ", due is " + want);
    }

    static void due(String what, long got, long want) {
        tell(got == want, what + " is " + got + ", due is " + want);
    }

    static void due(String what, String got, String want) {
        tell(got.equals(want), what + " is " + got + ", due is " + want);
    }

    static void yes(String what, boolean got) {
        tell(got, what + " does not hold");
    }

    static void no(String what, boolean got) {
        tell(!got, what + " holds");
    }

    /** The call throws just that, and the object answers as before. */
    static void refuses(ScopeRow x, Class<? extends RuntimeException> kind, String what, Runnable call) {
        long before = x.digest();
        due(what + " throws " + kind.getSimpleName() + " (1)", thrownBy(call) == kind ? 1 : 0, 1);
        due("digest behind " + what, x.digest(), before);
    }

    static void index(ScopeRow x, String what, Runnable call) {
        refuses(x, IndexOutOfBoundsException.class, what, call);
    }

    static void argument(ScopeRow x, String what, Runnable call) {
        refuses(x, IllegalArgumentException.class, what, call);
    }

    static void state(ScopeRow x, String what, Runnable call) {
        refuses(x, IllegalStateException.class, what, call);
    }

    /** The lowest and the highest number are taken; those beyond are refused, and change nothing, nor later. */
    static void within(Supplier<ScopeRow> make, String what, int lowest, int highest,
            Class<? extends RuntimeException> kind, Call call) {
        for (int number : new int[] {lowest, highest}) {
            ScopeRow x = make.get();
            yes(what + " " + number + " is taken", thrownBy(() -> call.of(x, number)) == null);
        }
        for (int number : new int[] {lowest - 1, highest + 1, Integer.MIN_VALUE, Integer.MAX_VALUE}) {
            ScopeRow x = make.get();
            refuses(x, kind, what + " " + number, () -> call.of(x, number));
            due("behind " + what + " " + number, later(x), later(make.get()));
        }
    }

    /** What an object answers to calls that show what no question shows: lines, rooms, orders of waiting. */
    static String later(ScopeRow x) {
        StringBuilder text = new StringBuilder();
        for (int body = 0; body < 8; body++) {
            int number = body;
            text.append(answer(() -> x.line(number, 0, 1, 0))).append(' ');
        }
        text.append(answer(() -> x.room(0, 2))).append(' ').append(answer(() -> x.room(1, 2))).append(' ');
        text.append(answer(x::body)).append(' ');
        for (int i = 0; i < 8; i++) {
            int body = i;
            text.append(answer(() -> x.start(body))).append(' ').append(x.run(5)).append(' ');
            text.append(x.digest()).append(' ').append(x.tick(2)).append(' ');
        }
        return text.append(x.run(50)).append(' ').append(x.digest()).toString();
    }

    /** What a call answers, or the name of what it throws. */
    static String answer(LongSupplier call) {
        try {
            return Long.toString(call.getAsLong());
        } catch (RuntimeException e) {
            return e.getClass().getSimpleName();
        }
    }

    static Class<?> thrownBy(Runnable call) {
        try {
            call.run();
            return null;
        } catch (RuntimeException e) {
            return e.getClass();
        }
    }

    /** Adds a BODY; a LINE is written as "ADD 5", "LOOP 0 2", "SKIP 4", "OPEN 2 5", "SHIELD 5", "SHUT". */
    static int write(ScopeRow x, String... lines) {
        int body = x.body();
        for (String line : lines) {
            String[] words = line.split(" ");
            int a = words.length > 1 ? Integer.parseInt(words[1]) : 0;
            int b = words.length > 2 ? Integer.parseInt(words[2]) : 0;
            boolean onlyB = ONLY_B.contains(" " + words[0] + " ");
            x.line(body, kindOf(words[0]), onlyB ? 0 : a, onlyB ? a : b);
        }
        return body;
    }

    /** A new object with a BODY of each of these. */
    static ScopeRow with(String[]... bodies) {
        ScopeRow x = new ScopeRow();
        for (String[] lines : bodies) {
            write(x, lines);
        }
        return x;
    }

    static String[] lines(String... lines) {
        return lines;
    }

    /** What a TASK of a BODY alone comes to: 100 times its state, and what there is. */
    static int alone(String... lines) {
        ScopeRow x = with(lines);
        int task = x.start(0);
        x.run(50);
        return x.ofTask(task, 1) * 100 + x.ofTask(task, 3);
    }

    static void starts(ScopeRow x, int... bodies) {
        for (int body : bodies) {
            x.start(body);
        }
    }

    static int kindOf(String name) {
        for (int i = 0; i < KINDS.length; i++) {
            if (KINDS[i].equals(name)) {
                return i;
            }
        }
        throw new IllegalArgumentException(name);
    }

    static boolean tellEnd() {
        System.out.println(passed + " checks held, " + failed + " did not");
        return failed == 0;
    }

    private static void tell(boolean holds, String text) {
        if (holds) {
            passed++;
        } else {
            failed++;
            System.out.println(test + ": " + text);
        }
    }
}
