import java.lang.management.ManagementFactory;
import java.lang.reflect.Array;
import java.lang.reflect.Field;
import java.lang.reflect.Modifier;
import java.util.IdentityHashMap;
import java.util.Map;
import java.util.Random;

/** All promises: calls with any arguments in any state never throw, and the room that they take is small. */
public final class AnyCallsTest {
    private static final Checks CHECKS = new Checks();

    public static void main(String[] args) throws IllegalAccessException {
        for (int seed = 0; seed < 400; seed++) {
            anyCalls(new Random(seed), seed);
        }
        room();
        nothingNew();
        CHECKS.end();
    }

    private static int any(Random random) {
        int[] edges = {-1, 0, 1, 2, 3, 7, 8, 9, 15, 16, 255, 256, 1024, 8000, 8001, 12000, Integer.MAX_VALUE, Integer.MIN_VALUE};
        int kind = random.nextInt(3);
        return kind == 0 ? edges[random.nextInt(edges.length)] : kind == 1 ? random.nextInt(20) : random.nextInt();
    }

    private static long call(StatePress x, Random random) {
        switch (random.nextInt(18)) {
            case 0: return x.write(random.nextLong(), any(random)) ? 1 : 0;
            case 1: return x.again(any(random), any(random)) ? 1 : 0;
            case 2: if (random.nextInt(3) == 0) { x.clear(); } return 0;
            case 3: return x.turn() ? 1 : 0;
            case 4: return x.rule(any(random), any(random)) ? 1 : 0;
            case 5: return x.learn();
            case 6: x.forget(); return 0;
            case 7: return x.press(any(random), any(random), any(random));
            case 8: return x.make(any(random));
            case 9: return x.about(any(random));
            case 10: return x.size();
            case 11: return x.byteAt(any(random));
            case 12: return x.rule(random.nextInt(4), 3 + random.nextInt(6)) ? 1 : 0;
            case 13: return x.press(random.nextInt(16), random.nextInt(12), 1 + random.nextInt(1024));
            case 14: return x.again(1 + random.nextInt(30), random.nextInt(9)) ? 1 : 0;
            default: return x.write(random.nextLong() & 0x0707070707070707L, 1 + random.nextInt(8)) ? 1 : 0;
        }
    }

    /** The same calls on two objects have the same answers. */
    private static void anyCalls(Random random, int seed) {
        StatePress x = new StatePress();
        StatePress y = new StatePress();
        long sum = 0;
        long other = 0;
        for (int i = 0; i < 512; i++) {
            long next = random.nextLong();
            long answer = call(x, new Random(next));
            sum = 31 * sum + answer;
            other = 31 * other + call(y, new Random(next));
            CHECKS.due("an answer of -4 or more, seed " + seed, answer >= -4, true);
        }
        CHECKS.due("the same calls twice, seed " + seed, sum, other);
        CHECKS.due("OUT of the same calls, seed " + seed, Checks.out(x), Checks.out(y));
    }

    private static void room() throws IllegalAccessException {
        Map<Object, Boolean> seen = new IdentityHashMap<>();
        long elements = count(new StatePress(), seen);
        CHECKS.due("few objects: " + seen.size(), seen.size() < 300, true);
        CHECKS.due("few elements: " + elements, elements < 150000, true);
    }

    private static long count(Object object, Map<Object, Boolean> seen) throws IllegalAccessException {
        if (object == null || seen.put(object, true) != null) {
            return 0;
        }
        if (object.getClass().isArray()) {
            return Array.getLength(object);
        }
        long sum = 0;
        for (Field field : object.getClass().getDeclaredFields()) {
            if (!Modifier.isStatic(field.getModifiers())) {
                sum++;
                field.setAccessible(true);
                sum += field.getType().isPrimitive() ? 0 : count(field.get(object), seen);
            }
        }
        return sum;
    }

    /** After the constructor no call makes an object. */
    private static void nothingNew() {
        com.sun.management.ThreadMXBean bean = (com.sun.management.ThreadMXBean) ManagementFactory.getThreadMXBean();
        long self = Thread.currentThread().getId();
        byte[] row = Checks.row(new Random(8), 3000);
        StatePress x = new StatePress();
        Checks.feed(x, row);
        // The first time counts what the bean itself makes.
        bean.getThreadAllocatedBytes(self);
        long before = bean.getThreadAllocatedBytes(self);
        for (int i = 0; i < 20; i++) {
            x.make(i);
            x.turn();
            x.learn();
            x.turn();
            x.press(15, 3, 1 + 100 * i);
            x.press(15, 3, 8000);
        }
        long made = bean.getThreadAllocatedBytes(self) - before;
        CHECKS.due("120 calls make " + made + " bytes, which are few", made < 4000, true);
    }
}
