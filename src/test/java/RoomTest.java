import java.lang.management.ManagementFactory;
import java.lang.reflect.Array;
import java.lang.reflect.Field;
import java.lang.reflect.Modifier;
import java.util.IdentityHashMap;
import java.util.Map;

/** The room that objects take: what one makes, and that no call makes more. */
public final class RoomTest {
    private static final int[] SOME = {-1, 0, 1, 2, 3, 5, 6, 40, 62, 64, Integer.MAX_VALUE, Integer.MIN_VALUE};
    private static final int[] PAIRS = {0, 1, 1, 5};
    private static final Due DUE = new Due();

    public static void main(String[] args) throws Exception {
        made();
        calls();
        DUE.end("RoomTest");
    }

    private static void made() throws Exception {
        Map<Object, Boolean> seen = new IdentityHashMap<>();
        long elements = count(new FirstLanding(), seen);
        System.out.println("RoomTest: " + seen.size() + " objects, " + elements + " fields and elements each");
        DUE.is("100 objects at most", seen.size() <= 100 ? 1 : 0, 1);
        DUE.is("4000 fields and elements at most", elements <= 4000 ? 1 : 0, 1);
    }

    private static long count(Object o, Map<Object, Boolean> seen) throws Exception {
        if (o == null || seen.put(o, true) != null) {
            return 0;
        }
        long many = 0;
        if (o.getClass().isArray()) {
            many += Array.getLength(o);
            if (!o.getClass().getComponentType().isPrimitive()) {
                for (Object part : (Object[]) o) {
                    many += count(part, seen);
                }
            }
            return many;
        }
        for (Field f : o.getClass().getDeclaredFields()) {
            if (!Modifier.isStatic(f.getModifiers())) {
                f.setAccessible(true);
                many += 1 + (f.getType().isPrimitive() ? 0 : count(f.get(o), seen));
            }
        }
        return many;
    }

    private static void calls() {
        FirstLanding x = Due.embassy("n6g045230e302114s550607v040025c130503k206140");
        Due.row(x, 0, 0, 1, 1, 5, 2, 3, 4, 5);
        Due.row(x, 1, 62, 2, 6, 4);
        x.lots(20, 5);
        long sum = all(x);
        com.sun.management.ThreadMXBean bean = (com.sun.management.ThreadMXBean) ManagementFactory.getThreadMXBean();
        bean.getCurrentThreadAllocatedBytes();
        long before = bean.getCurrentThreadAllocatedBytes();
        for (int i = 0; i < 20; i++) {
            sum += all(x);
        }
        long after = bean.getCurrentThreadAllocatedBytes();
        System.out.println("RoomTest: " + (after - before) + " bytes were made by calls that add up to " + sum);
        DUE.is("calls make nothing", after - before < 1000 ? 1 : 0, 1);
    }

    /** Every call with some numbers, wild ones among them; none may throw, either. */
    private static long all(FirstLanding x) {
        long sum = x.asked() + x.upper() + x.lower() + x.finding() + x.digest() + x.well();
        for (int a : SOME) {
            sum += x.mean(a) + x.fault(a) + x.step(a) + x.undo(a) + x.keep(a) + x.on(a);
            sum += x.there(a) + x.agree(a) + x.add(a) + x.worst(a) + x.steps(a) + x.tells(a);
            sum += x.missions(a) + x.count(a) + x.findings(a);
            for (int b : SOME) {
                sum += x.at(a, b) + x.person(a, b) + x.looks(a, b) + x.mark(a, b) + x.treat(a, b);
                sum += x.seems(a, b) + x.kinds(a, b) + x.knows(a, b) + x.hears(a, b);
                sum += x.mid(a, b) + x.odds(a, b) + x.lots(a, b);
                for (int c : SOME) {
                    sum += x.meet(a, b, c) + x.meetings(a, b, c) + x.fits(a, b, c);
                    sum += x.copy(a, b, c, a, b) + x.copy(a, b, c, b, a);
                }
            }
        }
        for (int a : SOME) {
            for (int b : SOME) {
                sum += x.lay(a, b, a) + x.put(a, b, a);
            }
        }
        return sum + x.embassy(0) + wild(x);
    }

    private static long wild(FirstLanding x) {
        long sum = 0;
        for (int a : SOME) {
            sum += x.text(3, a) + x.row(5, a) + x.tear(5) + x.tear(a);
            Due.row(x, 0, PAIRS);
        }
        return sum;
    }
}
