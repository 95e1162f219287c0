import java.lang.reflect.Method;
import java.lang.reflect.Modifier;
import java.nio.file.Files;
import java.nio.file.Path;
import java.util.ArrayList;
import java.util.List;
import java.util.regex.Matcher;
import java.util.regex.Pattern;

/** README.md's examples, one behind the other, answer what stands behind them; its tables name each call. */
public final class ReadmeTest {
    private static final Due DUE = new Due("README.md");
    private static final Pattern CALL = Pattern.compile("x\\.(\\w+)\\((.*)\\);\\s+// (-?\\d+)(:.*)?");

    private static List<String> examples(String page) {
        List<String> lines = new ArrayList<>();
        boolean inside = false;
        for (String line : page.split("\n")) {
            if (line.startsWith("```")) inside = line.equals("```java");
            else if (inside) lines.add(line);
        }
        return lines;
    }

    private static Method named(String name) {
        for (Method m : WordChanged.class.getDeclaredMethods()) {
            if (m.getName().equals(name) && Modifier.isPublic(m.getModifiers())) return m;
        }
        throw new IllegalArgumentException("no call " + name);
    }

    private static long numberOf(String told) {
        return told.startsWith("'") ? told.charAt(1) : Long.parseLong(told);
    }

    private static long answer(WordChanged x, String name, String given) throws Exception {
        Method m = named(name);
        Class<?>[] kinds = m.getParameterTypes();
        String[] told = given.isEmpty() ? new String[0] : given.split(", ");
        Object[] arguments = new Object[told.length];
        for (int i = 0; i < told.length; i++) {
            if (kinds[i] == long.class) arguments[i] = numberOf(told[i]);
            else arguments[i] = (int) numberOf(told[i]);
        }
        return ((Number) m.invoke(x, arguments)).longValue();
    }

    private static void examplesAnswer(String page) throws Exception {
        WordChanged x = new WordChanged();
        int made = 0;
        int calls = 0;
        for (String line : examples(page)) {
            if (line.equals("WordChanged x = new WordChanged();")) {
                x = new WordChanged();
                made++;
                continue;
            }
            Matcher call = CALL.matcher(line);
            DUE.isTrue("an example's line is a call and its answer: " + line, call.matches());
            if (call.matches()) {
                DUE.is(line, answer(x, call.group(1), call.group(2)), Long.parseLong(call.group(3)));
                calls++;
            }
        }
        DUE.isTrue("there are examples", made > 0 && calls > 0);
    }

    private static void tablesNameEachCall(String page) {
        for (Method m : WordChanged.class.getDeclaredMethods()) {
            if (!Modifier.isPublic(m.getModifiers())) continue;
            Pattern row = Pattern.compile("^\\| .*`" + m.getName() + "\\(([^)]*)\\)`.* \\|$", Pattern.MULTILINE);
            Matcher told = row.matcher(page);
            boolean found = told.find();
            DUE.isTrue("a table names " + m.getName(), found);
            if (found) {
                int parameters = told.group(1).isEmpty() ? 0 : told.group(1).split(", ").length;
                DUE.is("parameters told of " + m.getName(), parameters, m.getParameterCount());
            }
        }
    }

    public static void main(String[] args) throws Exception {
        String page = Files.readString(Path.of("README.md"));
        examplesAnswer(page);
        tablesNameEachCall(page);
        DUE.end();
    }
}
