import java.lang.management.ManagementFactory;
import java.lang.reflect.Array;
import java.lang.reflect.Field;
import java.lang.reflect.Modifier;
import java.util.ArrayDeque;
import java.util.Deque;
import java.util.IdentityHashMap;
import java.util.Map;

/** How much one object holds: little when it is new, no more after its last call; and that its calls make nothing. */
public final class RoomTests {
    private static final int MOST_OBJECTS = 120, MOST_ELEMENTS = 2500;
    private static final int ROUNDS = 200;

    public static void main(String[] args) throws IllegalAccessException {
        FewPlaces x = new FewPlaces();
        long[] atFirst = held(x);
        if (atFirst[0] > MOST_OBJECTS || atFirst[1] > MOST_ELEMENTS) {
            Run.complain("a new object holds " + atFirst[0] + " objects, " + atFirst[1] + " fields and elements");
        }
        for (int domain = 0; domain <= 2; domain++) {
            FewPlaces used = new FewPlaces();
            allKindsOfCalls(used, domain);
            allKindsOfCalls(used, (domain + 1) % 3);
            long[] afterwards = held(used);
            if (afterwards[0] != atFirst[0] || afterwards[1] != atFirst[1]) {
                Run.complain("calls have made it hold " + afterwards[0] + " objects, " + afterwards[1] + " fields and elements");
            }
        }
        made();
        Run.end();
    }

    /** How many objects and arrays hang on one, and how many fields and elements they have. */
    private static long[] held(Object root) throws IllegalAccessException {
        long elements = 0;
        Map<Object, Boolean> seen = new IdentityHashMap<>();
        Deque<Object> open = new ArrayDeque<>();
        meet(root, seen, open);
        while (!open.isEmpty()) {
            Object one = open.pop();
            elements += one.getClass().isArray() ? meetElements(one, seen, open) : meetFields(one, seen, open);
        }
        return new long[] {seen.size(), elements};
    }

    private static void meet(Object one, Map<Object, Boolean> seen, Deque<Object> open) {
        if (one != null && seen.put(one, true) == null) {
            open.push(one);
        }
    }

    private static int meetElements(Object row, Map<Object, Boolean> seen, Deque<Object> open) {
        int length = Array.getLength(row);
        for (int i = 0; i < length && !row.getClass().getComponentType().isPrimitive(); i++) {
            meet(Array.get(row, i), seen, open);
        }
        return length;
    }

    private static int meetFields(Object one, Map<Object, Boolean> seen, Deque<Object> open) throws IllegalAccessException {
        int many = 0;
        for (Field f : one.getClass().getDeclaredFields()) {
            if (!Modifier.isStatic(f.getModifiers())) {
                many++;
                f.setAccessible(true);
                if (!f.getType().isPrimitive()) {
                    meet(f.get(one), seen, open);
                }
            }
        }
        return many;
    }

    /** The machine itself tells how many bytes this thread has made; the first rounds are left out, as classes are made there. */
    private static void made() {
        if (!(ManagementFactory.getThreadMXBean() instanceof com.sun.management.ThreadMXBean machine)
            || !machine.isThreadAllocatedMemorySupported()) {
            System.out.println("this machine does not tell what calls make");
            return;
        }
        FewPlaces[] objects = new FewPlaces[ROUNDS];
        for (int i = 0; i < ROUNDS; i++) {
            objects[i] = new FewPlaces();
        }
        long me = Thread.currentThread().getId();
        long before = 0;
        for (int i = 0; i < ROUNDS; i++) {
            if (i == ROUNDS / 4) {
                before = machine.getThreadAllocatedBytes(me);
            }
            allKindsOfCalls(objects[i], i % 3);
        }
        long bytes = machine.getThreadAllocatedBytes(me) - before;
        // Some bytes may be the measuring's own; one object a round would be thousands.
        if (bytes > ROUNDS * 8) {
            Run.complain("calls have made " + bytes + " bytes in " + ROUNDS * 3 / 4 + " rounds");
        }
    }

    /** Fewer than 200 calls, so that an object has room for two rounds of them. */
    private static void allKindsOfCalls(FewPlaces x, int domain) {
        x.begin(domain, 3, 7);
        x.place(1, 1, 5);
        x.orbit(2, 1, 1);
        x.orbit(1, 2, 99999);
        x.sheet(domain, domain, 72);
        x.put(domain, 0, 2);
        x.put(domain, 99, 2);
        x.at(domain, 0, domain);
        x.at(domain, 0, (domain + 1) % 3);
        x.places(domain, domain, 0, 24);
        x.places(domain, domain, 0, -1);
        x.sheet(domain, domain, -1);
        tellingCalls(x);
        x.keep(domain);
        x.keep(5);
        x.pair(3, 6);
        x.pair(2, 6);
        tellingCalls(x);
        x.load(5);
        x.drop(0);
        x.lose(domain);
    }

    private static void tellingCalls(FewPlaces x) {
        for (int a = 0; a <= 6; a++) {
            x.moment(a, 6 - a, 0);
            x.sum(a, 6 - a, 1);
            x.error(a, 6 - a, 0);
            x.error(a, 7, 0);
        }
        x.degree();
        x.first(0);
        x.least(4);
        x.term(14, 1000);
        x.whole(0);
        for (int what = -1; what <= 4; what++) {
            x.about(0, what);
            x.is(what);
            x.told(what);
            x.byRule(what, 1);
            x.tell(what);
            x.count(what);
            x.as(0, what);
        }
        x.trace();
        x.fault();
    }
}
