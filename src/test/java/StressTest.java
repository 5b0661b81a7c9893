import java.lang.management.ManagementFactory;
import java.lang.reflect.InvocationTargetException;
import java.lang.reflect.Method;
import java.lang.reflect.Modifier;
import java.util.Arrays;
import java.util.Comparator;
import java.util.NoSuchElementException;
import java.util.Random;

/** Any arguments in any state: nothing is thrown but by led(), and calls make next to nothing. */
public final class StressTest {
    private static final Check CHECK = new Check();
    private static final int[] EDGES = {Integer.MIN_VALUE, Integer.MIN_VALUE + 1, -1000, -10, -2, -1, 0, 1, 2, 3, 4, 5, 6, 7, 9,
        10, 13, 14, 20, 31, 32, 33, 60, 61, 99, 100, 999, 1000, 65536, 65537, 1 << 20, Integer.MAX_VALUE - 1, Integer.MAX_VALUE};

    public static void main(String[] args) throws ReflectiveOperationException {
        Method[] face = Arrays.stream(ChaletRule.class.getDeclaredMethods()).filter(m -> Modifier.isPublic(m.getModifiers()))
                .sorted(Comparator.comparing(Method::getName)).toArray(Method[]::new);
        for (int seed = 0; seed < 300; seed++) {
            run(face, new Random(seed));
        }
        room();
        CHECK.end("StressTest");
    }

    private static void run(Method[] face, Random random) throws ReflectiveOperationException {
        ChaletRule x = new ChaletRule();
        int kind = random.nextInt(4);
        if (kind > 0) {
            Check.read(x, kind == 1 ? Village.TEXT : kind == 2 ? Village.ZEROS : Village.chalet(90, 3, 2, 40)
                    + ";vent a wet 9 costs 9;vent b fine 9 costs 0;vent c wet 1 costs 1;vent d fine 2 costs 2;field f");
        }
        for (int i = 0; i < 512; i++) {
            Method m = face[random.nextInt(face.length)];
            if (random.nextInt(40) == 0) {
                byte[] noise = new byte[random.nextInt(60)];
                random.nextBytes(noise);
                Check.put(x, noise);
            }
            call(x, m, random);
        }
    }

    private static void call(ChaletRule x, Method m, Random random) throws ReflectiveOperationException {
        Object[] given = new Object[m.getParameterCount()];
        for (int i = 0; i < given.length; i++) {
            if (m.getParameterTypes()[i] == boolean.class) {
                given[i] = random.nextBoolean();
            } else {
                given[i] = random.nextInt(8) == 0 ? random.nextInt() : EDGES[random.nextInt(EDGES.length)];
            }
        }
        String thrown = "";
        try {
            m.invoke(x, given);
        } catch (InvocationTargetException e) {
            boolean due = m.getName().equals("led") && e.getCause().getClass() == NoSuchElementException.class;
            thrown = due ? "" : e.getCause().toString();
        }
        CHECK.due(m.getName() + Arrays.toString(given) + " " + thrown, thrown.isEmpty(), true);
    }

    /** All calls of a run live in one room: behind the constructor nothing is made. */
    private static void room() {
        com.sun.management.ThreadMXBean threads = (com.sun.management.ThreadMXBean) ManagementFactory.getThreadMXBean();
        ChaletRule x = Check.with(Village.TEXT);
        long before = 0;
        for (int i = 0; i < 100; i++) {
            if (i == 50) {
                before = threads.getCurrentThreadAllocatedBytes();
            }
            ask(x);
        }
        long made = threads.getCurrentThreadAllocatedBytes() - before;
        CHECK.due("bytes made by 1,500 calls: " + made, made < 20000, true);
        before = threads.getCurrentThreadAllocatedBytes();
        new ChaletRule();
        made = threads.getCurrentThreadAllocatedBytes() - before;
        CHECK.due("bytes made by a constructor: " + made, made < 40000, true);
    }

    private static void ask(ChaletRule x) {
        x.feed(0x6368616c, 0x65742064, 0x616d7020, 0x3720776f, 0x6f642030);
        x.chalet(20);
        x.round();
        x.stays();
        x.bestRow(4);
        x.sureRow(4);
        x.rowFor(2, 4);
        x.look();
        x.judge();
        x.value(4);
        x.opens(4);
        x.narrow();
        x.likely(1, 6, true);
        x.gusted(1, 60);
        x.day();
    }
}
