import java.lang.management.ManagementFactory;
import java.lang.reflect.Array;
import java.lang.reflect.Field;
import java.lang.reflect.Modifier;
import java.util.ArrayDeque;
import java.util.Collections;
import java.util.Deque;
import java.util.IdentityHashMap;
import java.util.Set;

/** All calls of one run live in one room: what an object holds and what its calls make is counted. */
public final class RoomTest {
    /** A room of 7.3 million parts and 600,000 objects, shared by 512 calls. */
    private static final int MOST_PARTS = 7_300_000 / 512;
    private static final int MOST_OBJECTS = 600_000 / 512;

    private static int objects = 0;
    private static int parts = 0;
    private static int sum = 0;

    private static void count(Object root) throws IllegalAccessException {
        Set<Object> seen = Collections.newSetFromMap(new IdentityHashMap<>());
        Deque<Object> left = new ArrayDeque<>();
        left.add(root);
        while (!left.isEmpty()) {
            Object o = left.remove();
            if (!seen.add(o)) {
                continue;
            }
            objects++;
            if (o.getClass().isArray()) {
                parts += Array.getLength(o);
                if (o instanceof Object[]) {
                    for (Object e : (Object[]) o) {
                        left.add(e);
                    }
                }
                continue;
            }
            for (Field f : o.getClass().getDeclaredFields()) {
                if (Modifier.isStatic(f.getModifiers())) {
                    continue;
                }
                parts++;
                f.setAccessible(true);
                Object value = f.get(o);
                if (!f.getType().isPrimitive() && value != null) {
                    left.add(value);
                }
            }
        }
    }

    /** A run of 512 calls that asks for much: eight PERSONS by a law, twelve days to ask about. */
    private static void calls(TollsForLate x, int[][] fed, int bytes) {
        for (int[] w : fed) {
            x.feed(w[0], w[1], w[2], w[3], w[4]);
        }
        x.end(bytes);
        x.text();
        x.by(0);
        for (int i = 0; i < 8; i++) {
            x.person(i % 4, 20, 10, 0);
        }
        for (int i = 0; i < 20; i++) {
            sum += x.day(1 + i) + x.years(i, 40) + x.undo() + x.image() + x.back() + x.played(0);
            sum += x.settled(-1) + x.rounds() + x.basin(3) + x.always() + x.race(8, false);
            sum += x.tells(1) + x.asleep(true) + x.foretold(60, 1) + x.whose() + x.lateness(1);
            sum += x.believes(1, true) + x.tail(9) + x.never() + x.calm(true) + x.needless();
        }
    }

    public static void main(String[] args) throws IllegalAccessException {
        String law = "takes if rings 0+rings 1*2+rings 2*4+rings 3*8+rings 4*50+rings 5*50+rings 6*50"
                + "+rings 7*50<12 then rings who else 0 end;day 3;ring 5;";
        int[][] fed = new int[(law.length() + 19) / 20][5];
        for (int i = 0; i < law.length(); i++) {
            fed[i / 20][i % 20 / 4] |= law.charAt(i) << 24 - i % 4 * 8;
        }
        count(new TollsForLate());
        System.out.println("a new object: " + objects + " objects, " + parts + " parts");
        boolean fits = objects <= MOST_OBJECTS && parts <= MOST_PARTS;

        com.sun.management.ThreadMXBean threads =
                (com.sun.management.ThreadMXBean) ManagementFactory.getThreadMXBean();
        calls(new TollsForLate(), fed, law.length());
        TollsForLate x = new TollsForLate();
        long before = threads.getCurrentThreadAllocatedBytes();
        calls(x, fed, law.length());
        long made = threads.getCurrentThreadAllocatedBytes() - before;
        System.out.println("a run of calls made " + made + " bytes (" + sum % 10 + ")");
        // The one row that grows: 4096 numbers at most, and all that it was before.
        if (!fits || made > 40_000) {
            System.out.println("that is too much");
            System.exit(1);
        }
    }
}
