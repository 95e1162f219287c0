import java.io.IOException;
import java.lang.reflect.Constructor;
import java.lang.reflect.Field;
import java.lang.reflect.Method;
import java.lang.reflect.Modifier;
import java.nio.file.Files;
import java.nio.file.Path;
import java.util.List;
import java.util.Set;
import java.util.TreeSet;

/** The public face of the document, and the rules of LANGUAGE.md that a test can see. */
public final class FaceTest {
    private static final Due DUE = new Due("face");
    private static final String[] FACE = {
        "int post(int,int)", "int posts(int,int,int)", "int mend(int,int,int)", "int of(int,int)", "int feed(int)",
        "int law()", "int mishears(int)", "int hears(int,int)", "int route(int,int)", "int letsIn(int,int)",
        "int patrol(int,int)", "int holdsFor(int)", "int stranger(int,int,int)", "int safe(int,int,int)",
        "int first(int,int)", "long right(int,int,int,int)", "long twice(int,int,int)", "int word(int)",
        "long odds(int,int,int)", "long guess(int,int,int,int)", "int judge(int)", "int which(int,int)",
        "int when(int)", "int oddWord(int)", "int drawn(int,int,int,int)", "int change(int)", "int tell(int)",
        "int stay(int)", "int ask(int,int)", "int led(int)", "int image()", "int back()", "int undo()", "int redo()",
        "int body(int)", "int act(int,int,int)", "int trace(int)", "int keep(int,int)", "int row(int,int,int)",
        "int put(int,int,long)", "long element(int,int)", "int shift(int,int,int,int,int)", "int taken(int,int)",
        "int count(int)",
    };

    private static String told(Method m) {
        StringBuilder text = new StringBuilder(m.getReturnType() + " " + m.getName() + "(");
        for (Class<?> c : m.getParameterTypes()) {
            text.append(text.charAt(text.length() - 1) == '(' ? "" : ",").append(c);
        }
        return text.append(")").toString();
    }

    private static void face() throws Exception {
        Set<String> want = new TreeSet<>(List.of(FACE));
        Set<String> got = new TreeSet<>();
        Set<String> publicNames = new TreeSet<>();
        for (Method m : WordChanged.class.getDeclaredMethods()) {
            if (!Modifier.isPrivate(m.getModifiers())) {
                got.add(told(m));
                publicNames.add(m.getName());
                DUE.isTrue("public, of an object: " + m, m.getModifiers() == Modifier.PUBLIC);
            }
        }
        DUE.isTrue("the face is " + got, got.equals(want));
        for (Class<?> inner : WordChanged.class.getDeclaredClasses()) noPublicNames(inner, publicNames);
        noPublicNames(WordChanged.class, publicNames);
        Set<String> constants = new TreeSet<>();
        for (Field f : WordChanged.class.getDeclaredFields()) {
            if (!Modifier.isPrivate(f.getModifiers())) constants.add(f.getName() + "=" + f.getInt(null));
        }
        DUE.isTrue("constants " + constants, constants.toString()
            .equals("[BAD=-1, FULL=-3, NOT=-2, STATE=-5, VOID=-2000000000]"));
        Constructor<?>[] made = WordChanged.class.getDeclaredConstructors();
        DUE.isTrue("one constructor", made.length == 1 && made[0].getModifiers() == Modifier.PUBLIC
            && made[0].getParameterCount() == 0);
        DUE.isTrue("public and final", WordChanged.class.getModifiers() == (Modifier.PUBLIC | Modifier.FINAL));
    }

    private static void noPublicNames(Class<?> kind, Set<String> publicNames) {
        for (Method m : kind.getDeclaredMethods()) {
            boolean hidden = Modifier.isPrivate(m.getModifiers());
            DUE.isTrue("no public one's name: " + m, !hidden || !publicNames.contains(m.getName()));
            DUE.isTrue("at most seven parameters: " + m, m.getParameterCount() <= 7);
        }
        for (Field f : kind.getDeclaredFields()) {
            if (Modifier.isStatic(f.getModifiers())) DUE.isTrue("final: " + f, Modifier.isFinal(f.getModifiers()));
        }
        if (kind != WordChanged.class) DUE.isTrue("static: " + kind, Modifier.isStatic(kind.getModifiers()));
    }

    private static void words() throws IOException {
        String source = Files.readString(Path.of("src/main/java/WordChanged.java"));
        String code = source.replaceAll("(?s)/\\*.*?\\*/", " ").replaceAll("//[^\n]*", " ");
        for (String word : List.of("throw", "throws", "try", "catch", "synchronized", "assert", "package",
                "hashCode", "System.out", "System.nano", "System.current", "Random", "::")) {
            boolean isWord = Character.isLetter(word.charAt(0));
            String pattern = isWord ? "\\b" + word + "\\b" : java.util.regex.Pattern.quote(word);
            DUE.isTrue("not in the source: " + word, !java.util.regex.Pattern.compile(pattern).matcher(code).find());
        }
        for (String line : code.split("\n")) {
            String text = line.trim();
            DUE.isTrue("an arrow stands in a switch alone: " + text,
                !text.contains("->") || text.startsWith("case ") || text.startsWith("default "));
            DUE.isTrue("only these are imported: " + text,
                !text.startsWith("import ") || text.matches("import java\\.util\\.(ArrayList|Arrays|Iterator|List);"));
        }
    }

    public static void main(String[] args) throws Exception {
        face();
        words();
        DUE.end();
    }
}
