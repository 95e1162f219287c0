import java.lang.reflect.Method;
import java.util.ArrayList;
import java.util.HashMap;
import java.util.List;
import java.util.Map;
import java.util.Random;

/** Long runs of drawn calls on WordChanged and on Model: each answer must be the same. */
public final class AgainstModelTest {
    private static final int RUNS = 1500, CALLS = 512;
    private static final int[] WILD = {
        Integer.MIN_VALUE, Integer.MAX_VALUE, -1000, -15, -3, -2, -1, 7, 10, 60, 61, 100, 999, 1000, 7000, 32767, 65536,
        2000000,
    };
    private static final String LETTERS = "yncpwl0123456789+-*/%<=>|&!()?;";

    private final Random random;
    private final WordChanged real = new WordChanged();
    private final Model model = new Model();
    private final Map<String, Method> realCalls = new HashMap<>();
    private final Map<String, Method> modelCalls = new HashMap<>();
    private final List<String> names = new ArrayList<>();
    private final List<String> told = new ArrayList<>();
    private int wrong;
    private int calls;

    private AgainstModelTest(long seed) {
        random = new Random(seed);
        for (Method m : Model.class.getDeclaredMethods()) {
            if (java.lang.reflect.Modifier.isPublic(m.getModifiers())) modelCalls.put(m.getName(), m);
        }
        for (Method m : WordChanged.class.getDeclaredMethods()) {
            if (modelCalls.containsKey(m.getName()) && java.lang.reflect.Modifier.isPublic(m.getModifiers())) {
                realCalls.put(m.getName(), m);
            }
        }
        names.addAll(modelCalls.keySet());
        java.util.Collections.sort(names);
    }

    private long call(String name, long... args) throws Exception {
        Method m = realCalls.get(name);
        Object[] given = new Object[args.length];
        for (int i = 0; i < args.length; i++) {
            if (m.getParameterTypes()[i] == long.class) given[i] = args[i];
            else given[i] = (int) args[i];
        }
        String text = name + java.util.Arrays.toString(given);
        told.add(text);
        calls++;
        long got = ((Number) m.invoke(real, given)).longValue();
        long want = ((Number) modelCalls.get(name).invoke(model, given)).longValue();
        if (got != want) {
            wrong++;
            System.out.println(text + " answered " + got + ", the model " + want + "; the run: " + told);
        }
        return got;
    }

    private int upTo(int n) {
        return random.nextInt(n + 1);
    }

    private int wild(int usual) {
        return random.nextInt(40) == 0 ? WILD[random.nextInt(WILD.length)] : usual;
    }

    private int pm() {
        return wild(upTo(6) % Math.max(1, model.count(0)) * 1000 + upTo(random.nextBoolean() ? 300 : 999));
    }

    private int minute() {
        return upTo(random.nextBoolean() ? 300 : 999);
    }

    /** As long as a POST may hear NEW, and OLD may hold behind that. */
    private int lateMinute() {
        return random.nextInt(3) == 0 ? upTo(3300) : minute();
    }

    private void feedText(String text) throws Exception {
        for (char c : text.toCharArray()) call("feed", c);
        call("law");
    }

    private String expression(int depth) {
        int what = random.nextInt(depth <= 0 ? 2 : 10);
        switch (what) {
            case 0: return "" + upTo(random.nextInt(4) != 0 ? 12 : 9999);
            case 1: return "" + "yncpwl".charAt(random.nextInt(6));
            case 2: return "(" + expression(depth - 1) + ")";
            case 3: return "!" + operand(depth - 1);
            case 4: return "-" + operand(depth - 1);
            case 5: return operand(depth - 1) + "<=>".charAt(random.nextInt(3)) + operand(depth - 1);
            default: return operand(depth - 1) + "+-*/%|&".charAt(random.nextInt(7)) + expression(depth - 1);
        }
    }

    private String operand(int depth) {
        return random.nextInt(3) == 0 && depth > 0 ? "(" + expression(depth - 1) + ")" : expression(0);
    }

    private String text() {
        StringBuilder text = new StringBuilder();
        int lines = 1 + random.nextInt(3);
        for (int i = 0; i < lines; i++) {
            if (i > 0) text.append(';');
            text.append(expression(3));
            if (random.nextBoolean()) text.append('?').append(expression(3));
        }
        if (random.nextInt(4) == 0) {
            int at = random.nextInt(text.length() + 1);
            text.insert(at, LETTERS.charAt(random.nextInt(LETTERS.length())));
        }
        if (random.nextInt(6) == 0) text.deleteCharAt(random.nextInt(text.length()));
        if (text.length() > 60 && random.nextInt(10) != 0) text.setLength(60);
        return text.toString();
    }

    private void mendOne() throws Exception {
        int what = upTo(11);
        int[] most = {99, 99, 12, 9, 9, 999, 999, 6, 9, 9, 999, 999};
        int number = what < 3 ? upTo(6) : what < 5 ? upTo(9) : what < 8 ? upTo(3) : 0;
        int v = most[what] == 999 ? minute() : upTo(most[what]);
        if (what >= 8 && what <= 9 || what == 4) v = upTo(random.nextBoolean() ? 2 : 9);
        if (what == 11 && random.nextBoolean()) v = upTo(20);
        call("mend", wild(number), wild(what), wild(v));
    }

    private void layRoute(int shelf) throws Exception {
        int n = upTo(7);
        call("row", shelf, 0, n);
        List<Integer> order = new ArrayList<>(List.of(1, 2, 3, 4, 5, 6));
        java.util.Collections.shuffle(order, random);
        for (int i = 0; i < n; i++) call("put", shelf, i, i < 6 ? order.get(i) : wild(upTo(6)));
    }

    private void laySaid(int shelf) throws Exception {
        int n = upTo(random.nextInt(3) == 0 ? 9 : 4);
        call("row", shelf, 1, random.nextInt(8) == 0 ? n : 3 * (n / 3 + 1));
        for (int i = 0; i < model.count(0) && 3 * i < n; i++) {
            call("put", shelf, 3 * i, upTo(Math.max(0, model.count(0) - 1)));
            call("put", shelf, 3 * i + 1, wild(lateMinute()));
            call("put", shelf, 3 * i + 2, wild(model.of(0, random.nextBoolean() ? 8 : 9)));
        }
    }

    private void lookAtAll() throws Exception {
        int shelf = upTo(1);
        int post = upTo(6);
        call("hears", shelf, wild(post - 2));
        call("mishears", wild(upTo(6) * 10 + upTo(6)));
        call("letsIn", shelf, pm());
        call("patrol", shelf, upTo(4) - 1);
        call("holdsFor", shelf);
        call("stranger", shelf, pm(), upTo(6));
        call("safe", shelf, pm(), wild(minute()));
        call("first", shelf, upTo(1));
        call("right", shelf, post - 2, upTo(127), upTo(1));
        call("twice", shelf, wild(upTo(6)), upTo(2));
        call("word", shelf);
        call("odds", shelf, upTo(3), upTo(1));
        call("guess", shelf, pm(), wild(1 + upTo(9)), upTo(1));
        int rs = shelf * 10 + 2 + upTo(1);
        call("judge", rs);
        call("when", rs);
        call("oddWord", rs);
        call("drawn", shelf, random.nextInt(), wild(1 + upTo(29)), upTo(1));
        if (random.nextInt(8) == 0) {
            call("which", 2 + upTo(1), upTo(1));
            call("route", upTo(1), upTo(7) - 1);
        }
    }

    private void actOnce() throws Exception {
        int bodies = 1 + upTo(random.nextInt(20) == 0 ? 20 : 1);
        for (int i = 0; i < bodies; i++) call("body", wild(upTo(7)));
        call("act", upTo(Math.max(1, model.count(3))), wild(upTo(3)), random.nextInt(9) - 4);
        call("count", 4);
        for (int i = 0; i < 11; i++) call("trace", i);
        call("act", upTo(Math.max(1, model.count(3))), upTo(3), random.nextInt());
        call("keep", 4 + upTo(1), wild(upTo(Math.max(1, model.count(3)))));
        for (int i = 0; i < 3; i++) call("taken", 4 + upTo(1), wild(upTo(7)));
    }

    private void useRows() throws Exception {
        int sort = upTo(4);
        call("row", 4, sort, wild(upTo(12)));
        call("row", 5, random.nextInt(6) == 0 ? upTo(4) : sort, wild(upTo(12)));
        for (int i = 0; i < 12; i++) call("put", 4 + upTo(1), upTo(12), random.nextLong() >> upTo(63));
        call("shift", 4 + upTo(1), wild(upTo(4)), 4 + upTo(1), wild(upTo(4)), wild(upTo(6)));
        for (int i = 0; i < 12; i++) call("element", 4 + upTo(1), i);
        if (model.count(0) < 7) {
            call("row", 4, 0, 1 + upTo(8));
            for (int i = 0; i < 9; i++) call("put", 4, i, wild(upTo(12)));
            call("posts", 4, wild(upTo(3)), wild(1 + upTo(2)));
        }
    }

    private void anyCall() throws Exception {
        String name = names.get(random.nextInt(names.size()));
        if ((name.equals("which") || name.equals("route")) && random.nextInt(8) != 0) return;
        int n = realCalls.get(name).getParameterCount();
        long[] args = new long[n];
        int most = random.nextBoolean() ? 3 : 60;
        for (int i = 0; i < n; i++) args[i] = wild(upTo(i == 0 ? 5 : most));
        if (name.equals("row") || name.equals("keep") || name.equals("put")) args[0] = 4 + upTo(1);
        call(name, args);
    }

    private int run() throws Exception {
        int posts = upTo(7);
        for (int i = 0; i < posts; i++) call("post", upTo(99), upTo(random.nextBoolean() ? 20 : 99));
        if (random.nextBoolean()) for (int i = 0; i < 12; i++) mendOne();
        if (random.nextInt(8) != 0) {
            layRoute(0);
            layRoute(1);
            laySaid(2);
            laySaid(3);
        }
        while (calls < CALLS - 70) {
            switch (random.nextInt(12)) {
                case 0: layRoute(upTo(1)); break;
                case 1: laySaid(2 + upTo(1)); break;
                case 2: if (random.nextInt(3) == 0) feedText(text()); break;
                case 3: case 4: mendOne(); mendOne(); break;
                case 5: call(random.nextInt(3) == 0 ? "redo" : "undo"); break;
                case 6: case 7: lookAtAll(); break;
                case 8:
                    call("change", wild(upTo(3)));
                    call("tell", wild(upTo(6)));
                    call("stay", wild(1 + upTo(random.nextInt(3) == 0 ? 998 : 80)));
                    call("ask", upTo(6), upTo(3));
                    break;
                case 9: if (random.nextBoolean()) actOnce(); break;
                case 10: if (random.nextBoolean()) useRows(); break;
                default: for (int i = 0; i < 6; i++) anyCall();
            }
        }
        for (int i = 0; i < 15; i++) call("of", i % 10, i % 14);
        for (int i = 0; i < 6; i++) call("count", i);
        return wrong;
    }

    public static void main(String[] args) throws Exception {
        Due due = new Due("against the model");
        for (int seed = 0; seed < RUNS; seed++) {
            due.is("wrong answers of run " + seed, new AgainstModelTest(seed).run(), 0);
        }
        due.end();
    }
}
