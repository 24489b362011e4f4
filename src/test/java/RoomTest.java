import java.lang.management.ManagementFactory;
import java.lang.reflect.InvocationTargetException;
import java.lang.reflect.Method;
import java.lang.reflect.Modifier;
import java.util.ArrayList;
import java.util.Comparator;
import java.util.List;
import java.util.Random;

/** No call throws, whatever its arguments are in whatever state; and what a run of calls makes has room. */
public final class RoomTest {
    private static final int[] EDGES = {Integer.MIN_VALUE, -1000001, -17, -1, 0, 1, 2, 3, 4, 5, 6, 7, 8, 9, 15, 16, 20, 21,
        30, 59, 60, 61, 99, 100, 255, 256, 9999, 10000, 999999, 1000000, Integer.MAX_VALUE};
    private static final int CALLS_MOST = 512, SHEET_CALLS_MOST = 162;
    private static final int CALLS_OF_ALL = 180, RUNS = 20, OBJECTS_MOST = 600000;
    private static final String[] SHEETS = {
        "h3,30,30;t8,20,0;z30,40;b30,45,1,2;l5,6,0,0;l20,20,4,0;u30,20,0,0;s18,14,2,9;r40,40,3,4;k50,10,2,1;g2m4;g4a0;g6i1,2;g8e2;g10d7;",
        "h0,0,0;t0;z0,0;g0m1;",
        "h20,60,60;t20,20,20,20,20,20;z60,60;k60,60,15,20;g15m60;g0i7,7;g0d60;g0e7;g1a7;g0d0;",
        "h0,0,0;t20;z0,0;u60,0,0,0;u0,60,0,0;g0a0;g8a1;g0i0,1;g8i1,0;g0m60;g8m60;"};

    public static void main(String[] args) {
        neverThrows();
        takesLittleRoom();
        Due.finish("RoomTest");
    }

    private static List<Method> face() {
        List<Method> methods = new ArrayList<>();
        for (Method m : SailingDirections.class.getDeclaredMethods()) {
            if (Modifier.isPublic(m.getModifiers())) {
                methods.add(m);
            }
        }
        methods.sort(Comparator.comparing(Method::getName));
        return methods;
    }

    private static void neverThrows() {
        Random random = new Random(7);
        List<Method> methods = face();
        for (int round = 0; round < 4000; round++) {
            SailingDirections x = new SailingDirections();
            for (int calls = 0; calls < CALLS_MOST - SHEET_CALLS_MOST; calls++) {
                if (random.nextInt(200) == 0) {
                    x.course();
                    Due.read(x, SHEETS[random.nextInt(SHEETS.length)]);
                    calls += SHEET_CALLS_MOST;
                }
                Method m = methods.get(random.nextInt(methods.size()));
                Object[] values = new Object[m.getParameterCount()];
                for (int k = 0; k < values.length; k++) {
                    values[k] = random.nextInt(8) == 0 ? random.nextInt() : edge(random);
                }
                if (!isCalled(x, m, values)) {
                    return;
                }
            }
        }
        Due.due("all calls end", 0, 0);
    }

    private static int edge(Random random) {
        return random.nextInt(3) == 0 ? EDGES[random.nextInt(EDGES.length)] : random.nextInt(9);
    }

    private static boolean isCalled(SailingDirections x, Method m, Object[] values) {
        try {
            m.invoke(x, values);
            return true;
        } catch (InvocationTargetException | IllegalAccessException e) {
            Due.fail(m.getName() + java.util.Arrays.toString(values) + " threw " + e.getCause());
            return false;
        }
    }

    /** An object takes 16 bytes at least, so so many bytes are no more objects than there is room for. */
    private static void takesLittleRoom() {
        com.sun.management.ThreadMXBean threads = (com.sun.management.ThreadMXBean) ManagementFactory.getThreadMXBean();
        long thread = Thread.currentThread().getId();
        callAll(new SailingDirections(), 1);
        threads.getThreadAllocatedBytes(thread);
        long before = threads.getThreadAllocatedBytes(thread);
        for (int run = 0; run < RUNS; run++) {
            callAll(new SailingDirections(), CALLS_MOST / CALLS_OF_ALL);
        }
        long made = (threads.getThreadAllocatedBytes(thread) - before) / RUNS;
        if (made > 16L * OBJECTS_MOST) {
            Due.fail("a run of " + CALLS_MOST + " calls makes " + made + " bytes");
        }
        Due.due("bytes were counted", made > 0 ? 1 : 0, 1);
    }

    private static void callAll(SailingDirections x, int times) {
        String text = SHEETS[0];
        for (int i = 0; i < times; i++) {
            for (int k = 0; k < text.length(); k++) {
                x.feed(text.charAt(k));
            }
            x.sheet();
            x.feed('s');
            x.feed('w');
            x.course();
            x.feed('?');
            x.sheet();
            x.fault();
            x.measure(0, 0, i % 61);
            x.become(0, 1 + i % 6);
            x.ship(0, i % 21);
            x.tide(0, i % 21);
            x.steer(0, i % 16);
            x.until(0, 0, 1 + i % 60, 0);
            x.add(0, i % 16, 2, 0, 1);
            x.cut(1);
            x.undo();
            x.image(i % 2);
            x.restore(i % 2);
            callQuestions(x, i);
        }
    }

    private static void callQuestions(SailingDirections x, int i) {
        x.thing(0, 0);
        x.leg(0, 0);
        x.height(i);
        x.water(i % 61, 30, i % 2);
        x.mark(3, i, 0);
        x.seen(2, i % 61, 9, 0);
        x.line(0, 1, 5, 5);
        x.lines(0, 1, i % 3);
        x.sail(i % 100, i % 7);
        x.track(i % 100, i, i % 3);
        x.why(i % 100, i % 4, i % 2);
        x.sign(i % 100, i % 20);
        x.times();
        x.deepest(i % 100);
        x.courses(0, i % 100);
        x.needed(i % 100);
        x.near(0, i % 100);
        x.out(i % 100, i % 11, i % 2);
        x.drawn(12, 1 + i, i % 2);
        x.count(i % 7);
    }
}
