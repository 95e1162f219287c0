import java.util.function.Supplier;

/** Promises 1 to 5, each edge that the document names: a new object, post, posts, mend, of. */
public final class PostsEdgesTest {
    private static final Edges EDGES = new Edges("edges of posts");
    private static final int BAD = Edges.BAD, FULL = Edges.FULL, OTHER_KIND = Edges.OTHER_KIND;
    private static final int[] LEAST = {0, 0, 0, 1, 0, 0, 0, 0, 0, 0, 0, 0};
    private static final int[] MOST = {99, 99, 12, 9, 9, 999, 999, 6, 9, 9, 999, 999};
    private static final String[] NAMES = {
        "X (0 .. 99)", "Y (0 .. 99)", "COLD (0 .. 12)", "LONG (1 .. 9)", "LIKE (0 .. 9)", "OUT (a minute 0 .. 999)",
        "HOME (0 .. 999)", "BY (0 .. 6)", "OLD (a WORD)", "NEW (a WORD)", "AT (0 .. 999)", "HOLDS (0 .. 999)",
    };

    private static void noPostsAtFirst() {
        EDGES.sentence(1, "No posts");
        EDGES.is("count(0)", WordChanged::new, x -> x.count(0), 0);
        for (int what : new int[] {0, 1, 2, 12}) {
            EDGES.refused("of(0, " + what + ")", WordChanged::new, x -> x.of(0, what), BAD);
        }
        for (int what = 0; what < 3; what++) {
            int w = what;
            EDGES.refused("mend(0, " + what + ", 1)", WordChanged::new, x -> x.mend(0, w, 1), BAD);
        }
    }

    private static void numbersAtFirst() {
        EDGES.sentence(1, "an old word");
        EDGES.is("OLD", WordChanged::new, x -> x.of(0, 8), 0);
        EDGES.sentence(1, "NEW (a WORD; 1 at first)");
        EDGES.is("NEW", WordChanged::new, x -> x.of(0, 9), 1);
        EDGES.sentence(1, "AT (0 .. 999; 0 at first)");
        EDGES.is("AT", WordChanged::new, x -> x.of(0, 10), 0);
        EDGES.sentence(1, "HOLDS (0 .. 999; 60 at first)");
        EDGES.is("HOLDS", WordChanged::new, x -> x.of(0, 11), 60);
        EDGES.sentence(1, "LIKE: at first the next one by numbers, 0 behind 9");
        for (int w = 0; w < 9; w++) EDGES.is("LIKE of " + w, new WordChanged().of(w, 4), w + 1);
        EDGES.is("LIKE of 9", new WordChanged().of(9, 4), 0);
        EDGES.sentence(1, "LONG (1 .. 9; 3 at first)");
        for (int w = 0; w < 10; w++) EDGES.is("LONG of " + w, new WordChanged().of(w, 3), 3);
        EDGES.sentence(1, "OUT, HOME, BY (0 at first)");
        for (int what = 5; what < 8; what++) {
            for (int p = 0; p < 4; p++) EDGES.is("of(" + p + ", " + what + ")", new WordChanged().of(p, what), 0);
        }
        EDGES.sentence(1, "it is NOW minute 0");
        EDGES.is("NOW", WordChanged::new, x -> x.of(0, 13), 0);
    }

    private static void memoryIsItsOwn() {
        EDGES.sentence(1, "All memory is the class's own");
        WordChanged one = Camp.full();
        WordChanged another = new WordChanged();
        for (int what = 0; what < 5; what++) EDGES.is("count(" + what + ") beside a full one", another.count(what), 0);
        EDGES.is("an image beside a full one", another.back(), Edges.STATE);
        EDGES.is("a SHELF beside a full one", another.taken(0, 0), Edges.NOTHING_THERE);
        another.post(3, 4);
        Camp.law(another, "12");
        EDGES.is("X of the full one", one.of(0, 0), 0);
        EDGES.is("the LAW of the full one", one.mishears(10), 4);
    }

    private static void xAndYAre0To99() {
        EDGES.sentence(2, "A POST at X, Y: X, Y (0 .. 99); BAD");
        for (int wrong : new int[] {-1, 100, Integer.MIN_VALUE, Integer.MAX_VALUE}) {
            EDGES.refused("post(" + wrong + ", 5)", Camp::rich, x -> x.post(wrong, 5), BAD);
            EDGES.refused("post(5, " + wrong + ")", Camp::rich, x -> x.post(5, wrong), BAD);
        }
        WordChanged x = new WordChanged();
        EDGES.is("post(0, 99)", x.post(0, 99), 0);
        EDGES.is("X", x.of(0, 0), 0);
        EDGES.is("Y", x.of(0, 1), 99);
        EDGES.is("post(99, 0)", x.post(99, 0), 1);
        EDGES.is("X", x.of(1, 0), 99);
        EDGES.is("Y", x.of(1, 1), 0);
        EDGES.sentence(2, "COLD (0 .. 12; 0 at first)");
        EDGES.is("COLD", x.of(1, 2), 0);
    }

    private static void sevenPostsAreFull() {
        EDGES.sentence(2, "its number. FULL: 7");
        WordChanged x = new WordChanged();
        for (int i = 0; i < 7; i++) EDGES.is("post " + i, x.post(i, i), i);
        EDGES.is("count(0)", x.count(0), 7);
        EDGES.refused("an eighth", Camp::full, y -> y.post(1, 1), FULL);
        EDGES.sentence(2, "of several the one named first: BAD, FULL");
        EDGES.refused("an eighth at 100, 0", Camp::full, y -> y.post(100, 0), BAD);
        EDGES.refused("an eighth at 0, -1", Camp::full, y -> y.post(0, -1), BAD);
    }

    private static WordChanged rowOf(long... elements) {
        return Camp.bytes(new WordChanged(), 0, elements);
    }

    private static void oneToSevenComeFromARow() {
        EDGES.sentence(3, "n (1 .. 7) of them. BAD");
        for (int n : new int[] {0, -1, 8, Integer.MIN_VALUE, Integer.MAX_VALUE}) {
            EDGES.refused("posts(5, 0, " + n + ")", Camp::rich, x -> x.posts(5, 0, n), BAD);
        }
        EDGES.is("posts(0, 0, 1)", () -> rowOf(1, 2, 3, 4, 5, 6), x -> x.posts(0, 0, 1), 1);
        EDGES.is("posts(0, 0, 7)", () -> rowOf(new long[21]), x -> x.posts(0, 0, 7), 7);
        EDGES.is("posts(0, 0, 7) of a longer row", () -> rowOf(new long[60]), x -> x.posts(0, 0, 7), 7);
    }

    private static void aShelfIs0To5() {
        EDGES.sentence(3, "SHELVES 0 .. 5; BAD");
        for (int shelf : new int[] {-1, 6, Integer.MIN_VALUE, Integer.MAX_VALUE}) {
            EDGES.refused("posts(" + shelf + ", 0, 1)", Camp::rich, x -> x.posts(shelf, 0, 1), BAD);
        }
        EDGES.is("posts(5, 0, 2)", Camp::rich, x -> x.posts(5, 0, 2), 2);
        EDGES.is("posts(0, 0, 1)", () -> rowOf(1, 2, 3), x -> x.posts(0, 0, 1), 1);
    }

    private static void noneComeFromAPlaceBelow0() {
        EDGES.sentence(3, "how many came (0 with i below 0)");
        EDGES.refused("posts(5, -1, 1)", Camp::rich, x -> x.posts(5, -1, 1), 0);
        EDGES.refused("posts(5, -3, 2)", Camp::rich, x -> x.posts(5, -3, 2), 0);
        EDGES.refused("posts(5, least int, 7)", Camp::rich, x -> x.posts(5, Integer.MIN_VALUE, 7), 0);
        EDGES.is("posts(5, 0, 1)", Camp::rich, x -> x.posts(5, 0, 1), 1);
    }

    private static void anotherKindIsRefused() {
        EDGES.sentence(3, "-12 (no ROW of bytes)");
        for (int sort = 1; sort < 5; sort++) {
            int s = sort;
            Supplier<WordChanged> camp = () -> Camp.row(Camp.rich(), 5, s, 1, 1, 1);
            EDGES.refused("posts(5, 0, 1) of sort " + sort, camp, x -> x.posts(5, 0, 1), OTHER_KIND);
        }
        EDGES.refused("posts(3, 0, 1) of a BODY", Camp::rich, x -> x.posts(3, 0, 1), OTHER_KIND);
        EDGES.sentence(3, "of several the one named first: BAD, -12");
        EDGES.refused("posts(1, 0, 0)", Camp::rich, x -> x.posts(1, 0, 0), BAD);
        EDGES.refused("posts(3, 0, 8)", Camp::rich, x -> x.posts(3, 0, 8), BAD);
        EDGES.sentence(3, "a SHELF that holds nothing is missing");
        EDGES.refused("posts(4, 0, 1)", Camp::rich, x -> x.posts(4, 0, 1), 0);
        EDGES.refused("posts(4, 0, 8)", Camp::rich, x -> x.posts(4, 0, 8), BAD);
    }

    private static void itEndsWhereTheRowEnds() {
        EDGES.sentence(3, "it ends where the row ends (within a three, too): those ahead came");
        EDGES.is("of no elements", () -> rowOf(), x -> x.posts(0, 0, 1), 0);
        EDGES.is("of two elements", () -> rowOf(1, 2), x -> x.posts(0, 0, 1), 0);
        EDGES.is("of three elements", () -> rowOf(1, 2, 3), x -> x.posts(0, 0, 2), 1);
        EDGES.is("of five elements", () -> rowOf(1, 2, 3, 4, 5), x -> x.posts(0, 0, 2), 1);
        EDGES.is("of six elements", () -> rowOf(1, 2, 3, 4, 5, 6), x -> x.posts(0, 0, 2), 2);
        EDGES.is("of six elements from 3 on", () -> rowOf(1, 2, 3, 4, 5, 6), x -> x.posts(0, 3, 2), 1);
        for (int i : new int[] {4, 5, 6, 7, Integer.MAX_VALUE - 2, Integer.MAX_VALUE}) {
            EDGES.refused("posts(5, " + i + ", 1) of six elements", Camp::rich, x -> x.posts(5, i, 1), 0);
        }
        WordChanged x = rowOf(0, 1, 2, 3, 4, 5);
        EDGES.is("from 1 on", x.posts(0, 1, 2), 1);
        EDGES.is("X", x.of(0, 0), 1);
        EDGES.is("Y", x.of(0, 1), 2);
        EDGES.is("COLD", x.of(0, 2), 3);
        EDGES.is("which came", x.count(0), 1);
    }

    private static void itEndsWhereOneIsNotAsItMayBe() {
        EDGES.sentence(3, "it ends where one is not as it may be: those ahead came");
        long[][] wrong = {{-1, 5, 5}, {100, 5, 5}, {5, -1, 5}, {5, 100, 5}, {5, 5, -1}, {5, 5, 13}, {-128, 5, 5}};
        for (long[] three : wrong) {
            String name = "of " + java.util.Arrays.toString(three);
            EDGES.refused(name, () -> Camp.bytes(Camp.rich(), 5, three), x -> x.posts(5, 0, 1), 0);
            WordChanged x = rowOf(1, 2, 3, three[0], three[1], three[2], 7, 8, 9);
            EDGES.is(name + " behind another", x.posts(0, 0, 3), 1);
            EDGES.is(name + ", how many came", x.count(0), 1);
        }
        long[][] right = {{0, 5, 5}, {99, 5, 5}, {5, 0, 5}, {5, 99, 5}, {5, 5, 0}, {5, 5, 12}};
        for (long[] three : right) {
            WordChanged x = rowOf(three);
            String name = "of " + java.util.Arrays.toString(three);
            EDGES.is(name, x.posts(0, 0, 1), 1);
            for (int what = 0; what < 3; what++) EDGES.is(name + ", number " + what, x.of(0, what), three[what]);
        }
    }

    private static void itEndsWherePostsAreFull() {
        EDGES.sentence(3, "it ends where POSTS are FULL: those ahead came");
        Supplier<WordChanged> five = () -> Camp.bytes(Camp.four(), 0, new long[21]);
        EDGES.is("three places are left", five, x -> x.posts(0, 0, 7), 3);
        EDGES.is("then count(0)", five, x -> x.posts(0, 0, 7) + x.count(0), 3 + 7);
        EDGES.refused("none is left", Camp::full, x -> x.posts(5, 0, 1), 0);
    }

    private static void eachNumberHasItsBounds() {
        int[] amount = {4, 4, 4, 10, 10, 4, 4, 4, 1, 1, 1, 1};
        for (int what = 0; what < 12; what++) {
            EDGES.sentence(4, NAMES[what] + " becomes v: what it was. BAD");
            int w = what;
            for (int number : new int[] {0, amount[what] - 1}) {
                String call = "mend(" + number + ", " + what + ", ";
                for (int v : new int[] {LEAST[w] - 1, MOST[w] + 1, Integer.MIN_VALUE, Integer.MAX_VALUE}) {
                    EDGES.refused(call + v + ")", Camp::rich, x -> x.mend(number, w, v), BAD);
                }
                WordChanged x = Camp.rich();
                int was = x.of(number, what);
                EDGES.is(call + MOST[what] + ")", x.mend(number, what, MOST[what]), was);
                EDGES.is("then it is", x.of(number, what), MOST[what]);
                EDGES.is(call + LEAST[what] + ")", x.mend(number, what, LEAST[what]), MOST[what]);
                EDGES.is("then it is", x.of(number, what), LEAST[what]);
            }
        }
    }

    private static void noSuchNumberIsRefused() {
        String[] names = {"of a POST", "of a WORD", "of a PATROL", "number 0 for these, another: BAD"};
        int[] amount = {4, 4, 4, 10, 10, 4, 4, 4, 1, 1, 1, 1};
        for (int what = 0; what < 12; what++) {
            String name = names[what < 3 ? 0 : what < 5 ? 1 : what < 8 ? 2 : 3];
            int w = what;
            for (int number : new int[] {-1, amount[what], Integer.MIN_VALUE, Integer.MAX_VALUE}) {
                EDGES.sentence(4, name + "; BAD");
                EDGES.refused("mend(" + number + ", " + w + ", 5)", Camp::rich, x -> x.mend(number, w, 5), BAD);
                EDGES.sentence(5, name + ", as of mend(); BAD");
                EDGES.refused("of(" + number + ", " + w + ")", Camp::rich, x -> x.of(number, w), BAD);
            }
        }
        for (int what = 0; what < 3; what++) {
            int w = what;
            EDGES.sentence(4, "POSTS 0 .. 6");
            EDGES.is("mend(6, " + what + ", 5)", Camp::full, x -> x.mend(6, w, 5) + x.of(6, w), w < 2 ? 65 : 5);
            EDGES.refused("mend(7, " + what + ", 5)", Camp::full, x -> x.mend(7, w, 5), BAD);
            EDGES.sentence(5, "POSTS 0 .. 6");
            EDGES.refused("of(7, " + what + ")", Camp::full, x -> x.of(7, w), BAD);
        }
    }

    private static void noSuchWhatIsRefused() {
        EDGES.sentence(4, "X (what 0) .. HOLDS (11). BAD");
        for (int what : new int[] {-1, 12, 13, Integer.MIN_VALUE, Integer.MAX_VALUE}) {
            EDGES.refused("mend(0, " + what + ", 1)", Camp::rich, x -> x.mend(0, what, 1), BAD);
        }
        EDGES.sentence(5, "As of mend() (0 to 11); of a POST 12; 13 NOW. BAD");
        for (int what : new int[] {-1, 14, Integer.MIN_VALUE, Integer.MAX_VALUE}) {
            EDGES.refused("of(0, " + what + ")", Camp::rich, x -> x.of(0, what), BAD);
        }
    }

    private static void byMayBeAPostThatIsNoneYet() {
        EDGES.sentence(4, "BY (7; 0 .. 6, also a POST that is none yet)");
        WordChanged x = new WordChanged();
        EDGES.is("mend(3, 7, 6) with no POSTS", x.mend(3, 7, 6), 0);
        EDGES.is("BY", x.of(3, 7), 6);
        EDGES.is("mend(3, 7, 7)", x.mend(3, 7, 7), BAD);
    }

    private static void whatAPostHasAndNow() {
        EDGES.sentence(5, "of a POST 12 what it has (in deed). BAD");
        EDGES.is("of(0, 12)", Camp::rich, x -> x.of(0, 12), 6);
        EDGES.is("of(3, 12)", Camp::rich, x -> x.of(3, 12), 0);
        EDGES.is("of(6, 12)", Camp::full, x -> x.of(6, 12), 0);
        for (int number : new int[] {-1, 4, Integer.MIN_VALUE, Integer.MAX_VALUE}) {
            EDGES.refused("of(" + number + ", 12)", Camp::rich, x -> x.of(number, 12), BAD);
        }
        EDGES.sentence(5, "number 0: 13 NOW. BAD");
        EDGES.is("of(0, 13)", Camp::rich, x -> x.of(0, 13), 50);
        for (int number : new int[] {-1, 1, Integer.MIN_VALUE, Integer.MAX_VALUE}) {
            EDGES.refused("of(" + number + ", 13)", Camp::rich, x -> x.of(number, 13), BAD);
        }
    }

    private static void theLastCallThatIsPromised() {
        EDGES.sentence(1, "An object is used for at most 512 calls");
        WordChanged x = new WordChanged();
        for (int i = 1; i <= 510; i++) x.mend(0, 10, i);
        EDGES.is("the 511th, count(2)", x.count(2), 40);
        EDGES.is("the 512th, of(0, 10)", x.of(0, 10), 510);
    }

    public static void main(String[] args) {
        noPostsAtFirst();
        numbersAtFirst();
        memoryIsItsOwn();
        xAndYAre0To99();
        sevenPostsAreFull();
        oneToSevenComeFromARow();
        aShelfIs0To5();
        noneComeFromAPlaceBelow0();
        anotherKindIsRefused();
        itEndsWhereTheRowEnds();
        itEndsWhereOneIsNotAsItMayBe();
        itEndsWherePostsAreFull();
        eachNumberHasItsBounds();
        noSuchNumberIsRefused();
        noSuchWhatIsRefused();
        byMayBeAPostThatIsNoneYet();
        whatAPostHasAndNow();
        theLastCallThatIsPromised();
        EDGES.end();
    }
}
