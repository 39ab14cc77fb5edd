import java.lang.reflect.Field;

/**
 * Reaches into an object from behind its face, for sentences of the document that no run of calls brings about: a
 * request that comes out of its order, a log that another rule keeps from being so, an entry that is gone.
 */
final class Behind {
    private static final int RING = 255;

    private Behind() { }

    static Object get(Object of, String name) {
        try {
            return found(of, name).get(of);
        } catch (ReflectiveOperationException e) {
            throw new IllegalStateException(e);
        }
    }

    static void set(Object of, String name, Object value) {
        try {
            found(of, name).set(of, value);
        } catch (ReflectiveOperationException e) {
            throw new IllegalStateException(e);
        }
    }

    private static Field found(Object of, String name) throws ReflectiveOperationException {
        Field field = of.getClass().getDeclaredField(name);
        field.setAccessible(true);
        return field;
    }

    static Object replica(OrderedWorks x, int r) {
        return ((Object[]) get(x, "replicas"))[r];
    }

    static Object log(OrderedWorks x, int r) {
        return get(replica(x, r), "log");
    }

    /** The entries of a replica's log; null is a NOTHING. */
    static Object[] slots(OrderedWorks x, int r) {
        return (Object[]) get(log(x, r), "slots");
    }

    /** The k-th oldest message in the air. */
    static Object message(OrderedWorks x, int k) {
        Object net = get(x, "net");
        return ((Object[]) get(net, "ring"))[(int) get(net, "oldest") + k & RING];
    }

    static Object message(OrderedWorks x, int kind, int from, int to) {
        return message(x, Air.place(x, kind, from, to));
    }

    /** A replica holds that request by that number, and nothing else. */
    static void hold(OrderedWorks x, int r, int number, Object request) {
        Object pending = get(replica(x, r), "pending");
        ((int[]) get(pending, "heldNumbers"))[0] = number;
        ((Object[]) get(pending, "held"))[0] = request;
        set(pending, "heldCount", 1);
    }

    static long view(int lead, int session) {
        return (long) session << 32 | lead;
    }
}
