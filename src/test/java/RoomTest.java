import java.lang.management.ManagementFactory;
import java.lang.reflect.Array;
import java.lang.reflect.Field;
import java.lang.reflect.Modifier;
import java.util.ArrayDeque;
import java.util.Collections;
import java.util.Deque;
import java.util.IdentityHashMap;
import java.util.Set;

/** All calls of a run live in one room: an object is small, and its calls make nothing new. */
public final class RoomTest {
    private static final Kit KIT = new Kit("RoomTest");

    public static void main(String[] args) throws IllegalAccessException {
        CloudMarket x = new CloudMarket();
        long[] fresh = size(x);
        System.out.println("RoomTest: an object has " + fresh[0] + " objects and " + fresh[1] + " fields and elements");
        KIT.due("few objects", fresh[0] <= 300, true);
        KIT.due("few elements", fresh[1] <= 12000, true);
        use(x);
        long[] used = size(x);
        KIT.due("no more objects", used[0], fresh[0]);
        KIT.due("no more elements", used[1], fresh[1]);
        callsMakeNothing(x);
        KIT.end();
    }

    private static long use(CloudMarket x) {
        long sum = Kit.parse(x, "host 9 9;host 9 9;type 1 1 9;type 2 2 9;tenant 9999;reserve 0 0 2 0 99 9;move age*2;");
        sum += calls(x);
        return sum;
    }

    private static long calls(CloudMarket x) {
        long sum = x.launch(0, 0) + x.launch(0, 1) + x.bid(0, 0, 9) + x.pass(1) + x.evict(2);
        sum += x.fewestHosts() + x.cheapestEviction(0, 1) + x.drainTo(0, 0) + x.priceAfter(0, 200);
        sum += x.evictedAfter(2) + x.migrationCost(1) + x.hourlyBill(0) + x.room(0) + x.drain(0) + x.migrate(0, 0);
        sum += (x.saveSnapshot(1) ? 1 : 0) + x.undo() + x.restoreSnapshot(1) + x.withdraw(0) + x.stop(0) + x.stop(1);
        sum += x.stop(2) + (x.pays(0) ? 1 : 0) + x.covered(0, 0) + x.spent(0) + x.instancesOn(0);
        return sum + (x.utilisation() > 0.5 ? 1 : 0);
    }

    private static void callsMakeNothing(CloudMarket x) {
        com.sun.management.ThreadMXBean bean = (com.sun.management.ThreadMXBean) ManagementFactory.getThreadMXBean();
        long sum = calls(x);
        long before = bean.getCurrentThreadAllocatedBytes();
        for (int k = 0; k < 100; k++) {
            sum += calls(x);
        }
        long made = bean.getCurrentThreadAllocatedBytes() - before;
        KIT.due("bytes made by 100 rounds of calls are few (" + made + ", sum " + sum + ")", made < 20000, true);
    }

    /** The objects that can be reached, and their fields and elements. */
    private static long[] size(Object root) throws IllegalAccessException {
        Set<Object> seen = Collections.newSetFromMap(new IdentityHashMap<>());
        Deque<Object> open = new ArrayDeque<>();
        seen.add(root);
        open.add(root);
        long elements = 0;
        while (!open.isEmpty()) {
            Object o = open.remove();
            if (o.getClass().isArray()) {
                elements += Array.getLength(o);
                for (int k = 0; !o.getClass().getComponentType().isPrimitive() && k < Array.getLength(o); k++) {
                    visit(Array.get(o, k), seen, open);
                }
            } else {
                for (Field f : o.getClass().getDeclaredFields()) {
                    if (!Modifier.isStatic(f.getModifiers())) {
                        elements++;
                        f.setAccessible(true);
                        visit(f.getType().isPrimitive() ? null : f.get(o), seen, open);
                    }
                }
            }
        }
        return new long[] {seen.size(), elements};
    }

    private static void visit(Object o, Set<Object> seen, Deque<Object> open) {
        if (o != null && seen.add(o)) {
            open.add(o);
        }
    }
}
