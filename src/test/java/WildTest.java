import java.lang.management.ManagementFactory;
import java.lang.reflect.InvocationTargetException;
import java.lang.reflect.Method;
import java.lang.reflect.Modifier;
import java.util.ArrayList;
import java.util.Comparator;
import java.util.List;
import java.util.Random;

/** No call throws, whatever it is given in whatever state; a refused call changes nothing; calls make no objects. */
public final class WildTest {
    private static final Due DUE = new Due("wild");
    private static final int[] EDGES = {
        Integer.MIN_VALUE, Integer.MIN_VALUE + 1, -1000, -101, -14, -3, -2, -1, 0, 1, 2, 3, 4, 5, 6, 7, 8, 9, 10, 11,
        12, 13, 21, 30, 31, 40, 59, 60, 61, 99, 100, 120, 127, 128, 255, 256, 999, 1000, 6999, 7000, 9999, 32767,
        65535, Integer.MAX_VALUE - 1, Integer.MAX_VALUE,
    };

    private static List<Method> calls() {
        List<Method> all = new ArrayList<>();
        for (Method m : WordChanged.class.getDeclaredMethods()) {
            if (Modifier.isPublic(m.getModifiers())) all.add(m);
        }
        all.sort(Comparator.comparing(Method::getName));
        return all;
    }

    private static Object[] drawn(Method m, Random random) {
        Class<?>[] kinds = m.getParameterTypes();
        Object[] given = new Object[kinds.length];
        boolean tame = random.nextInt(3) != 0;
        for (int i = 0; i < given.length; i++) {
            int v = tame ? random.nextInt(random.nextBoolean() ? 7 : 130) : EDGES[random.nextInt(EDGES.length)];
            if (kinds[i] == long.class) given[i] = (long) v;
            else given[i] = v;
        }
        return given;
    }

    private static WordChanged camp(Random random) {
        WordChanged x = new WordChanged();
        int posts = random.nextInt(8);
        for (int i = 0; i < posts; i++) x.post(random.nextInt(100), random.nextInt(100));
        for (int s = 0; s < 5; s++) {
            x.row(s, random.nextInt(5), random.nextInt(61));
            for (int i = 0; i < 60; i++) x.put(s, i, random.nextInt(8));
        }
        return x;
    }

    private static void nothingThrows() throws Exception {
        Random random = new Random(5);
        List<Method> all = calls();
        int thrown = 0;
        for (int run = 0; run < 1500; run++) {
            WordChanged x = camp(random);
            for (int call = 0; call < 512; call++) {
                Method m = all.get(random.nextInt(all.size()));
                Object[] given = drawn(m, random);
                try {
                    m.invoke(x, given);
                } catch (InvocationTargetException e) {
                    thrown++;
                    System.out.println(m.getName() + java.util.Arrays.toString(given) + " threw " + e.getCause());
                }
            }
        }
        DUE.is("calls that threw", thrown, 0);
    }

    private static String state(WordChanged x) {
        StringBuilder text = new StringBuilder();
        for (int what = 0; what < 14; what++) {
            for (int number = 0; number < 10; number++) text.append(x.of(number, what)).append(' ');
        }
        for (int what = 0; what < 5; what++) text.append(x.count(what)).append(' ').append(x.led(what)).append(' ');
        for (int s = 0; s < 6; s++) {
            for (int i = 0; i < 60; i++) text.append(x.element(s, i)).append(' ');
            text.append(x.taken(s, 0)).append(' ');
        }
        return text.toString();
    }

    private static void refusedChangesNothing() throws Exception {
        Random random = new Random(6);
        int changed = 0;
        int refused = 0;
        for (int run = 0; run < 2000; run++) {
            WordChanged x = camp(random);
            for (Method m : calls()) {
                if (m.getName().equals("law") || m.getName().equals("act")) continue;
                String before = state(x);
                Object[] given = drawn(m, random);
                long answer = ((Number) m.invoke(x, given)).longValue();
                if (answer < 0) {
                    refused++;
                    changed += state(x).equals(before) ? 0 : 1;
                }
            }
        }
        DUE.isTrue("many were refused", refused > 1000);
        DUE.is("refused calls that changed something", changed, 0);
    }

    private static void roomIsKept() {
        com.sun.management.ThreadMXBean beans = (com.sun.management.ThreadMXBean) ManagementFactory.getThreadMXBean();
        long thread = Thread.currentThread().getId();
        beans.getThreadAllocatedBytes(thread);
        long before = beans.getThreadAllocatedBytes(thread);
        WordChanged[] made = new WordChanged[100];
        for (int i = 0; i < made.length; i++) made[i] = new WordChanged();
        long perObject = (beans.getThreadAllocatedBytes(thread) - before) / made.length;
        DUE.isTrue("bytes of an object: " + perObject, perObject < 12000);
        WordChanged x = made[0];
        for (int i = 0; i < 7; i++) x.post(9 * i, 90 - 7 * i);
        Camp.bytes(x, 0, 6, 5, 4, 3, 2, 1);
        Camp.shorts(x, 1, 6, 100, 1, 5, 50, 0);
        before = beans.getThreadAllocatedBytes(thread);
        long sum = 0;
        for (int i = 0; i < 500; i++) {
            sum += x.route(i % 2, 0) + x.which(1, 1) + x.word(0) + x.twice(0, i % 7, 2) + x.drawn(0, i, 30, 1);
            sum += x.feed('y') + x.law() + x.first(0, 0) + x.when(1) + x.mend(0, 10, i) + x.undo() + x.image() + x.back();
            sum += x.row(2, i % 5, 60) + x.shift(2, 0, 2, 1, 9) + x.holdsFor(0) + x.safe(0, 100, 200) + x.body(3) + x.act(0, 3, i);
        }
        long made500 = beans.getThreadAllocatedBytes(thread) - before;
        DUE.isTrue("bytes of 9500 calls: " + made500 + " (" + sum + ")", made500 < 100000);
    }

    public static void main(String[] args) throws Exception {
        nothingThrows();
        refusedChangesNothing();
        roomIsKept();
        DUE.end();
    }
}
