import java.lang.reflect.Array;
import java.lang.reflect.Field;
import java.lang.reflect.Modifier;
import java.util.ArrayList;
import java.util.Collections;
import java.util.IdentityHashMap;
import java.util.List;
import java.util.Set;

/** The one room of a run: what an object holds is made with it, is little, and stays what it was. */
final class RoomTest {
    private static final int OBJECTS_MOST = 500;
    private static final int FIELDS_MOST = 5000;

    private int fields;
    private final Set<Object> found = Collections.newSetFromMap(new IdentityHashMap<>());

    private RoomTest(Object root) {
        List<Object> left = new ArrayList<>();
        left.add(root);
        while (!left.isEmpty()) {
            Object one = left.remove(left.size() - 1);
            if (one != null && found.add(one)) {
                look(one, left);
            }
        }
    }

    static void all() {
        Check.begin("all calls of one run live in one room");
        ScopeRow x = new ScopeRow();
        RoomTest before = new RoomTest(x);
        Check.yes("objects and arrays: " + before.found.size(), before.found.size() <= OBJECTS_MOST);
        Check.yes("fields and elements: " + before.fields, before.fields <= FIELDS_MOST);
        use(x);
        RoomTest behind = new RoomTest(x);
        Check.due("objects and arrays behind all calls", behind.found.size(), before.found.size());
        Check.due("fields and elements behind all calls", behind.fields, before.fields);
        Check.yes("the same ones", behind.found.containsAll(before.found));
    }

    private void look(Object one, List<Object> left) {
        Class<?> kind = one.getClass();
        if (kind.isArray()) {
            fields += Array.getLength(one);
            for (int i = 0; i < Array.getLength(one) && !kind.getComponentType().isPrimitive(); i++) {
                left.add(Array.get(one, i));
            }
            return;
        }
        for (Field field : kind.getDeclaredFields()) {
            if (Modifier.isStatic(field.getModifiers())) {
                continue;
            }
            fields++;
            if (!field.getType().isPrimitive()) {
                left.add(valueOf(field, one));
            }
        }
    }

    private static Object valueOf(Field field, Object of) {
        try {
            field.setAccessible(true);
            return field.get(of);
        } catch (IllegalAccessException e) {
            throw new IllegalStateException(e);
        }
    }

    /** Every call, in a machine as full as can be. */
    private static void use(ScopeRow x) {
        x.room(0, 2);
        Check.write(x, "OPEN 9 12", "SPAWN 1", "SPAWN 2", "SEND 0", "LOCK 1", "SHIELD 12", "PICK", "SHUT");
        Check.write(x, "LOCK 1", "OPEN 0 12", "TAKE 0", "OPEN 3 12", "SLEEP 2", "SEND 1");
        Check.write(x, "ADD 30", "PUT 0", "LOOP 0 2", "TAKE 1", "FAIL 4");
        for (int i = 0; i < 8; i++) {
            Check.answer(x::body);
        }
        for (int i = 0; i < 24; i++) {
            int n = i;
            Check.answer(() -> x.start(n % 4));
            Check.answer(() -> x.cancel(n) ? 1 : 0);
            x.run(2);
            x.tick(1);
            for (int what = -1; what <= 13; what++) {
                int w = what;
                Check.answer(() -> x.line(n % 8, 0, w, 0));
                Check.answer(() -> x.ofTask(n, w));
                Check.answer(() -> x.local(n, w));
                Check.answer(() -> x.ofScope(n, w));
                Check.answer(() -> x.ofLock(n % 3, w));
                Check.answer(() -> x.ofChannel(n % 3, w));
                Check.answer(() -> x.many(w));
            }
            x.meanLines();
            x.stuck();
            Check.answer(() -> x.wouldHit(n));
            Check.answer(() -> x.isClosedBy(n, 20) ? 1 : 0);
            Check.answer(() -> x.thereBy(n, 20));
            x.overBy(20, 50);
            x.digest();
        }
    }
}
