import java.lang.management.ManagementFactory;
import java.lang.reflect.Array;
import java.lang.reflect.Field;
import java.lang.reflect.Modifier;
import java.util.ArrayDeque;
import java.util.Collections;
import java.util.Deque;
import java.util.IdentityHashMap;
import java.util.Set;

/** How much room an object takes: little when it is made, no more behind its calls, and calls leave no litter. */
public final class RoomTest {
    private static final Checks C = new Checks("RoomTest");
    private static final int MOST_OBJECTS = 100;
    private static final int MOST_FIELDS_AND_ELEMENTS = 2000;
    private static final int ROUNDS = 5;

    public static void main(String[] args) throws IllegalAccessException {
        TowThatJerks x = new TowThatJerks();
        long[] made = roomOf(x);
        C.due("a new object's objects are few: " + made[0], made[0] <= MOST_OBJECTS ? 1 : 0, 1);
        C.due("and their fields and elements: " + made[1], made[1] <= MOST_FIELDS_AND_ELEMENTS ? 1 : 0, 1);
        prepare(x);
        round(x);
        C.dueAll("room behind calls", roomOf(x), made);
        noLitter();
        C.end();
    }

    private static void prepare(TowThatJerks x) {
        Checks.text(x, 0, "p009;p199;p299;p399;p209;p559;s20 40;v4;d9;y300;a+50;");
        Checks.row(x, 1, 0, 5, 30, 4, 6, 60, 9, 7, 0, 0);
        Checks.row(x, 2, 2, 1, 2, 3);
        C.due("tow", x.tow(0), 11);
        x.tenth();
        C.due("a tenth parts nothing, so that no call of a round is refused", x.count(1), 0);
        x.keep(3, 1, 1);
    }

    /** Every call but toss, whose failure is an object, with what makes it dear (tow has no room for pieces more). */
    private static void round(TowThatJerks x) {
        x.image();
        x.keep(3, 1, 1);
        x.tow(0);
        x.piece(0, 3);
        x.set(0, 20);
        x.line(2);
        x.apart(7);
        x.pull(7);
        x.tenth();
        x.greatest(1);
        x.holds(400, 2);
        x.fastest(400);
        x.longer(0, 0);
        x.stock(999, 0);
        x.bridge(7, 99);
        x.fouls();
        x.takeIn();
        x.shallowest();
        x.odds(20, 1);
        x.yaw(0);
        x.yaws(400);
        x.swings(400, 1);
        x.grows();
        x.held();
        x.whip(0);
        x.renders(0);
        x.winch(0);
        x.legs(1, 2);
        x.why(0);
        x.caravan(9);
        x.judge(2);
        x.count(4);
        x.row(4, 2, 100);
        x.put(4, 99, 5);
        x.element(4, 99);
        x.copy(2, 0, 2, 1, 2);
        x.price(3);
        x.restore();
    }

    private static long[] roomOf(Object root) throws IllegalAccessException {
        Set<Object> seen = Collections.newSetFromMap(new IdentityHashMap<>());
        Deque<Object> open = new ArrayDeque<>();
        open.add(root);
        seen.add(root);
        long parts = 0;
        while (!open.isEmpty()) {
            Object o = open.remove();
            if (o.getClass().isArray()) {
                parts += Array.getLength(o);
                for (int i = 0; i < Array.getLength(o) && !o.getClass().getComponentType().isPrimitive(); i++) {
                    reach(Array.get(o, i), seen, open);
                }
                continue;
            }
            for (Field f : o.getClass().getDeclaredFields()) {
                if (!Modifier.isStatic(f.getModifiers())) {
                    parts++;
                    f.setAccessible(true);
                    reach(f.getType().isPrimitive() ? null : f.get(o), seen, open);
                }
            }
        }
        return new long[] {seen.size(), parts};
    }

    private static void reach(Object o, Set<Object> seen, Deque<Object> open) {
        if (o != null && seen.add(o)) {
            open.add(o);
        }
    }

    /** The least of several rounds, for the machine's own first steps are not the calls'. */
    private static void noLitter() {
        com.sun.management.ThreadMXBean bean = (com.sun.management.ThreadMXBean) ManagementFactory.getThreadMXBean();
        if (!bean.isThreadAllocatedMemorySupported() || !bean.isThreadAllocatedMemoryEnabled()) {
            return;
        }
        long me = Thread.currentThread().getId();
        long least = Long.MAX_VALUE;
        TowThatJerks x = new TowThatJerks();
        prepare(x);
        for (int i = 0; i < ROUNDS; i++) {
            long ahead = bean.getThreadAllocatedBytes(me);
            round(x);
            least = Math.min(least, bean.getThreadAllocatedBytes(me) - ahead);
        }
        C.due("bytes made by a round of calls", least, 0);
    }
}
