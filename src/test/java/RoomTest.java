import java.lang.management.ManagementFactory;
import java.lang.reflect.InvocationTargetException;
import java.lang.reflect.Method;
import java.util.ArrayList;
import java.util.List;
import java.util.Random;

/** No call throws by itself, whatever its arguments, and no call makes objects (but guest, where it throws). */
public final class RoomTest {
    private static final Check CHECK = new Check("RoomTest");
    private static final int[] EDGES = {Integer.MIN_VALUE, Integer.MIN_VALUE + 1, -100, -2, -1, 0, 0, 1, 1, 2, 3, 5, 6, 7, 8, 9, 12,
        24, 31, 32, 40, 63, 64, 99, 100, 199, 200, 201, 999, 9000, 65536, Integer.MAX_VALUE - 1, Integer.MAX_VALUE};
    private static final String HEAVY = "guest a 99 20 9;guest b 99 30 8;guest c 99 40 7;guest d 99 50 6;guest e 99 60 5;guest f 9 70 4;"
            + "fruit p 9 1;fruit q 8 0;fruit r 7 1;near 3;cold 30;seed 5;"
            + "law praise wit+sweet-marks+(step-there*2)/7*3-manner/50+hunger/40;"
            + "law dare hunger>manner and not(step/7*7=step)or wit+5<marks;law shock 3+there+marks-wit/2;";

    private static void edges(String text, long seed) {
        Random random = new Random(seed);
        WaxBowl bowl = CHECK.told(text);
        List<Method> methods = new ArrayList<>();
        for (Method m : WaxBowl.class.getDeclaredMethods()) {
            if (java.lang.reflect.Modifier.isPublic(m.getModifiers())) {
                methods.add(m);
            }
        }
        methods.sort((a, b) -> a.getName().compareTo(b.getName()));
        for (int call = 0; call < 480; call++) {
            Method m = methods.get(random.nextInt(methods.size()));
            Object[] args = new Object[m.getParameterCount()];
            for (int i = 0; i < args.length; i++) {
                args[i] = m.getParameterTypes()[i] == boolean.class ? (Object) random.nextBoolean()
                        : (Object) EDGES[random.nextInt(EDGES.length)];
            }
            boolean good = true;
            try {
                m.invoke(bowl, args);
            } catch (InvocationTargetException e) {
                Class<?> thrown = e.getCause().getClass();
                good = m.getName().equals("guest")
                        && (thrown == IndexOutOfBoundsException.class || thrown == java.util.NoSuchElementException.class);
                if (!good) {
                    e.getCause().printStackTrace(System.out);
                }
            } catch (IllegalAccessException e) {
                good = false;
            }
            CHECK.due(m.getName() + " throws nothing but its own", good, true);
        }
    }

    /** One of each call that looks far ahead; the sum keeps them from being left out. */
    private static long dearCalls(WaxBowl x) {
        long sum = x.ahead(200, 4, 0) + x.swoon(1) + x.nextBite(0) + x.table(6) + x.hold() + x.calm() + x.bestFed(1);
        sum += x.rests(0, 1) + x.rest(0, 1, 0) + x.warm(6, 1) + x.eatenIn(1) + x.loaf(0, 99) + x.chain(0, 3) + x.part(0, 3);
        sum += x.grace(200) + x.sweets(0) + x.chance(5, 99, 0) + x.tried(4, 0, 200) + x.count(9) + x.law(0, 0, 0);
        sum += x.feed(0x20202020, 0x20202020, 0x20202020, 0x20202020, 0x20202020) + x.text(20) + x.undo() + x.keep() + x.back();
        return sum;
    }

    private static void noObjects() {
        com.sun.management.ThreadMXBean threads = (com.sun.management.ThreadMXBean) ManagementFactory.getThreadMXBean();
        if (!threads.isThreadAllocatedMemorySupported()) {
            return;
        }
        long id = Thread.currentThread().getId();
        long least = Long.MAX_VALUE;
        // The machine itself may put something aside in a round, so the best of several counts.
        for (int round = 0; round < 5; round++) {
            WaxBowl x = CHECK.told(HEAVY);
            x.see(99, 0, 50, true);
            x.see(50, 1, 50, false);
            dearCalls(x);
            WaxBowl y = CHECK.told(HEAVY);
            y.see(99, 0, 50, true);
            long before = threads.getThreadAllocatedBytes(id);
            dearCalls(y);
            least = Math.min(least, threads.getThreadAllocatedBytes(id) - before);
        }
        CHECK.due("bytes that the dear calls made", least < 1000, true);
    }

    public static void main(String[] args) {
        for (int seed = 0; seed < 60; seed++) {
            edges(HEAVY, seed);
            edges("", seed);
            edges("guest a 1 98 1;fruit p 1 1;", seed);
            edges("guest a 1 98 1;guest b 1 90 1;cold 60;", seed);
            edges("fruit p 1 1;fruit q 1 1;law dare 1 / 0;", seed);
        }
        noObjects();
        CHECK.end();
    }
}
