import com.sun.management.ThreadMXBean;
import java.lang.management.ManagementFactory;
import java.lang.reflect.Array;
import java.lang.reflect.Field;
import java.lang.reflect.Modifier;
import java.util.IdentityHashMap;
import java.util.Map;

/**
 * The room that a run has is some 600,000 objects and arrays with 7.3 million fields and elements,
 * for all that its calls make: so an object may make its tables once, and nothing behind that.
 */
public final class RoomTest {
    private static final int MOST_OBJECTS = 80, MOST_PARTS = 17000, MOST_BYTES = 4000;

    public static void main(String[] args) {
        SoldWithIt x = new SoldWithIt();
        Map<Object, Object> atFirst = held(x);
        dearest(x);
        Map<Object, Object> behind = held(x);
        long made = madeByDearest(x);
        System.out.println(atFirst.size() + " objects with " + parts(atFirst) + " parts when new, "
            + behind.size() + " with " + parts(behind) + " behind the dearest calls, "
            + made + " bytes made by them once more");
        if (behind.size() > MOST_OBJECTS || parts(behind) > MOST_PARTS || made > MOST_BYTES) {
            System.out.println("that is too much");
            System.exit(1);
        }
    }

    /** The machine's own count, which may take some bytes itself. */
    private static long madeByDearest(SoldWithIt x) {
        ThreadMXBean count = (ThreadMXBean) ManagementFactory.getThreadMXBean();
        long before = count.getCurrentThreadAllocatedBytes();
        for (int i = 0; i < 20; i++) {
            dearest(x);
        }
        return count.getCurrentThreadAllocatedBytes() - before;
    }

    private static void dearest(SoldWithIt x) {
        for (int i = 0; i < 2; i++) {
            tell(x, "00;11;22;33;00;11;22;33", "o0o1o2o3");
            x.sale(i, 1);
            x.best(0, -1);
            x.rest(-2);
            x.were(-1);
            x.bed();
            tell(x, "00;11;22;33", "o0o1o2o3o0o1o2o3");
            x.sheet(i, i, 48);
            x.should(i);
            x.write(i);
            x.copy(i, 0, i, 1, 40);
            x.invite(0, 254);
            x.digest();
        }
    }

    private static void tell(SoldWithIt x, String houses, String people) {
        x.wipe(0);
        x.wipe(1);
        for (int i = 0; i < houses.length(); i++) {
            x.type(0, houses.charAt(i));
        }
        for (int i = 0; i < people.length(); i++) {
            x.type(1, people.charAt(i));
        }
    }

    private static Map<Object, Object> held(Object from) {
        Map<Object, Object> seen = new IdentityHashMap<>();
        walk(from, seen);
        return seen;
    }

    private static void walk(Object o, Map<Object, Object> seen) {
        if (o == null || seen.put(o, o) != null) {
            return;
        }
        Class<?> type = o.getClass();
        if (type.isArray()) {
            for (int i = 0; !type.getComponentType().isPrimitive() && i < Array.getLength(o); i++) {
                walk(Array.get(o, i), seen);
            }
            return;
        }
        for (Field f : type.getDeclaredFields()) {
            if (!Modifier.isStatic(f.getModifiers()) && !f.getType().isPrimitive()) {
                walk(valueOf(f, o), seen);
            }
        }
    }

    private static Object valueOf(Field f, Object o) {
        try {
            f.setAccessible(true);
            return f.get(o);
        } catch (IllegalAccessException e) {
            throw new IllegalStateException(e);
        }
    }

    private static int parts(Map<Object, Object> objects) {
        int sum = 0;
        for (Object o : objects.keySet()) {
            sum += o.getClass().isArray() ? Array.getLength(o) : o.getClass().getDeclaredFields().length;
        }
        return sum;
    }
}
