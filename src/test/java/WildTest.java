import java.lang.management.ManagementFactory;
import java.lang.reflect.InvocationTargetException;
import java.lang.reflect.Method;
import java.lang.reflect.Modifier;
import java.util.ArrayList;
import java.util.Comparator;
import java.util.List;
import java.util.Random;
import java.util.function.Supplier;

/** No call throws, whatever it is given in whatever state; a refused call changes nothing; the room is kept. */
public final class WildTest {
    private static final Due DUE = new Due("wild");
    private static final int[] EDGES = {
        Integer.MIN_VALUE, Integer.MIN_VALUE + 1, -1000, -101, -14, -3, -2, -1, 0, 1, 2, 3, 4, 5, 6, 7, 8, 9, 10, 11,
        12, 13, 21, 30, 31, 40, 59, 60, 61, 99, 100, 120, 127, 128, 255, 256, 999, 1000, 6999, 7000, 9999, 32767,
        65535, Integer.MAX_VALUE - 1, Integer.MAX_VALUE,
    };

    private static List<Method> calls() {
        List<Method> all = new ArrayList<>();
        for (Method m : WordChanged.class.getDeclaredMethods()) {
            if (Modifier.isPublic(m.getModifiers())) all.add(m);
        }
        all.sort(Comparator.comparing(Method::getName));
        return all;
    }

    private static Object[] drawn(Method m, Random random) {
        Class<?>[] kinds = m.getParameterTypes();
        Object[] given = new Object[kinds.length];
        boolean tame = random.nextInt(3) != 0;
        for (int i = 0; i < given.length; i++) {
            int v = tame ? random.nextInt(random.nextBoolean() ? 7 : 130) : EDGES[random.nextInt(EDGES.length)];
            if (kinds[i] == long.class) given[i] = (long) v;
            else given[i] = v;
        }
        return given;
    }

    private static WordChanged camp(Random random) {
        WordChanged x = new WordChanged();
        int posts = random.nextInt(8);
        for (int i = 0; i < posts; i++) x.post(random.nextInt(100), random.nextInt(100));
        for (int s = 0; s < 5; s++) {
            x.row(s, random.nextInt(5), random.nextInt(61));
            for (int i = 0; i < 12; i++) x.put(s, i, random.nextInt(8));
        }
        return x;
    }

    private static void nothingThrows() throws Exception {
        Random random = new Random(5);
        List<Method> all = calls();
        int thrown = 0;
        for (int run = 0; run < 1500; run++) {
            WordChanged x = camp(random);
            for (int call = 0; call < 512; call++) {
                Method m = all.get(random.nextInt(all.size()));
                Object[] given = drawn(m, random);
                try {
                    m.invoke(x, given);
                } catch (InvocationTargetException e) {
                    thrown++;
                    System.out.println(m.getName() + java.util.Arrays.toString(given) + " threw " + e.getCause());
                }
            }
        }
        DUE.is("calls that threw", thrown, 0);
    }

    private static long answer(WordChanged x, Method m, Object[] given) {
        try {
            return ((Number) m.invoke(x, given)).longValue();
        } catch (ReflectiveOperationException e) {
            throw new IllegalStateException(m.getName() + " threw", e);
        }
    }

    private static void refusedChangesNothing() {
        Random random = new Random(6);
        int changed = 0;
        int refused = 0;
        for (int run = 0; run < 60; run++) {
            int seed = run;
            Supplier<WordChanged> camp = run % 3 == 0 ? Camp::rich : () -> camp(new Random(seed));
            List<Long> before = Look.at(camp, x -> 0);
            for (Method m : calls()) {
                // law() with a FAULT empties THE TAPE; what an ACT answers may be below 0.
                if (m.getName().equals("law") || m.getName().equals("act")) continue;
                Object[] given = drawn(m, random);
                if (answer(camp.get(), m, given) < 0) {
                    refused++;
                    boolean same = Look.at(camp, x -> answer(x, m, given)).equals(before);
                    if (!same) {
                        changed++;
                        System.out.println(m.getName() + java.util.Arrays.toString(given) + " changed something");
                    }
                }
            }
        }
        DUE.isTrue("many were refused: " + refused, refused > 1000);
        DUE.is("refused calls that changed something", changed, 0);
    }

    /** All calls of a run have one room together: far below it stays what one object takes with the dearest of them. */
    private static void roomIsKept() {
        com.sun.management.ThreadMXBean beans = (com.sun.management.ThreadMXBean) ManagementFactory.getThreadMXBean();
        dearestCalls(new WordChanged());
        long before = beans.getCurrentThreadAllocatedBytes();
        long sum = dearestCalls(new WordChanged());
        long taken = beans.getCurrentThreadAllocatedBytes() - before;
        DUE.isTrue("bytes of an object and its calls: " + taken + " (" + sum + ")", taken < 1000000);
    }

    private static long dearestCalls(WordChanged x) {
        for (int i = 0; i < 7; i++) x.post(9 * i, 90 - 7 * i);
        Camp.bytes(x, 0, 6, 5, 4, 3, 2, 1);
        Camp.shorts(x, 1, 6, 100, 1, 5, 50, 0);
        long sum = 0;
        for (int i = 0; i < 25; i++) {
            sum += x.route(i % 2, 0) + x.which(1, 1) + x.word(0) + x.twice(0, i % 7, 2) + x.drawn(0, i, 30, 1);
            sum += x.feed('y') + x.law() + x.first(0, 0) + x.when(1) + x.mend(0, 10, i) + x.undo();
            sum += x.image() + x.back() + x.row(2, i % 5, 60) + x.shift(2, 0, 2, 1, 9) + x.holdsFor(0);
            sum += x.safe(0, 100, 200) + x.body(3) + x.act(0, 3, i);
        }
        return sum;
    }

    public static void main(String[] args) throws Exception {
        nothingThrows();
        refusedChangesNothing();
        roomIsKept();
        DUE.end();
    }
}
