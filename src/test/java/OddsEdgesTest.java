import java.util.function.Supplier;

/** Promises 17 to 21, each edge that the document names: right, twice, word, odds, guess. */
public final class OddsEdgesTest {
    private static final Edges EDGES = new Edges("edges of odds");
    private static final long NO_LONG = Edges.NO_LONG;
    private static final int[] WRONG_PARTS = {-1, 2, 3, Integer.MIN_VALUE, Integer.MAX_VALUE};

    /** Answers a fraction's part, 0 above and 1 below the line. */
    private interface Fraction {
        long of(WordChanged x, int part);
    }

    private static void is(String call, Supplier<WordChanged> camp, Fraction fraction, long above, long below) {
        EDGES.is(call + ", above", camp, x -> fraction.of(x, 0), above);
        EDGES.is(call + ", below", camp, x -> fraction.of(x, 1), below);
    }

    private static void none(String call, Edges.Asked asked) {
        EDGES.refused(call, Camp::rich, x -> asked.of(x, 0), NO_LONG);
    }

    private static void shelvesRefused() {
        // Long.MIN_VALUE stands for BAD, -11 and -12.
        EDGES.wantsRoute(17, "right(.., 1, 0, 0)", (x, s) -> x.right(s, 1, 0, 0), NO_LONG, NO_LONG, NO_LONG);
        EDGES.wantsRoute(18, "twice(.., 1, 0)", (x, s) -> x.twice(s, 1, 0), NO_LONG, NO_LONG, NO_LONG);
        EDGES.wantsRoute(19, "word(..)", (x, s) -> x.word(s), Edges.BAD, Edges.NOTHING_THERE, Edges.OTHER_KIND);
        EDGES.wantsRoute(20, "odds(.., 0, 0)", (x, s) -> x.odds(s, 0, 0), NO_LONG, NO_LONG, NO_LONG);
        EDGES.wantsRoute(21, "guess(.., 1120, 1, 0)", (x, s) -> x.guess(s, 1120, 1, 0), NO_LONG, NO_LONG, NO_LONG);
    }

    private static void partIsAboveOrBelow() {
        for (int part : WRONG_PARTS) {
            EDGES.sentence(17, "part 0 above, 1 below the line");
            for (int post = -2; post < 4; post++) {
                int p = post;
                none("right(0, " + post + ", 0, " + part + ")", (x, s) -> x.right(s, p, 0, part));
            }
            EDGES.sentence(20, "part 0 above, 1 below the line");
            none("odds(0, 0, " + part + ")", (x, s) -> x.odds(s, 0, part));
            EDGES.sentence(21, "part 0 above, 1 below the line");
            none("guess(0, 1120, 1, " + part + ")", (x, s) -> x.guess(s, 1120, 1, part));
            EDGES.sentence(18, "ALL then (part 0, 1), the set (2)");
            if (part != 2) none("twice(0, 1, " + part + ")", (x, s) -> x.twice(s, 1, part));
        }
        EDGES.is("twice(0, 1, 2)", Camp::rich, x -> x.twice(0, 1, 2), 8);
    }

    /** The ROUTE 1, 2, 3: misheard by 4, 0, 9 of twelve. */
    private static WordChanged misheard() {
        WordChanged x = Camp.four();
        x.mend(0, 10, 100);
        x.mend(1, 2, 7);
        x.mend(3, 2, 10);
        return Camp.bytes(x, 0, 1, 2, 3);
    }

    private static WordChanged by(String law, long... route) {
        WordChanged x = misheard();
        Camp.law(x, law);
        return Camp.bytes(x, 0, route);
    }

    private static void rightOfWhichPost() {
        EDGES.sentence(17, "a POST (post 0 on), ALL (-1), how many on the mean (-2)");
        for (int post : new int[] {-3, 4, 7, Integer.MIN_VALUE, Integer.MAX_VALUE}) {
            none("right(0, " + post + ", 0, 0)", (x, s) -> x.right(s, post, 0, 0));
        }
        EDGES.refused("right(0, 7, 0, 0) of seven", Camp::full, x -> x.right(0, 7, 0, 0), NO_LONG);
        is("POST 0", OddsEdgesTest::misheard, (x, part) -> x.right(0, 0, 0, part), 1, 1);
        is("POST 3", OddsEdgesTest::misheard, (x, part) -> x.right(0, 3, 0, part), 1, 4);
        is("ALL", OddsEdgesTest::misheard, (x, part) -> x.right(0, -1, 0, part), 1, 6);
        is("the mean", OddsEdgesTest::misheard, (x, part) -> x.right(0, -2, 0, part), 23, 12);
        EDGES.sentence(17, "not in it: 0 by 1");
        is("POST 1 of 2", () -> by("0", 2), (x, part) -> x.right(0, 1, 0, part), 0, 1);
        is("POST 1 of 2, told twice", () -> by("0", 2), (x, part) -> x.right(0, 1, 2, part), 0, 1);
        is("POST 3 of none", () -> by("0"), (x, part) -> x.right(0, 3, 0, part), 0, 1);
        WordChanged other = by("0", 1, 2, 3);
        EDGES.is("POST 1 of 1, 2, 3", other.right(0, 1, 2, 0), 1);
        Camp.bytes(other, 0, 2);
        EDGES.is("POST 1 of another ROUTE then", other.right(0, 1, 0, 0), 0);
        EDGES.is("POST 1 of another ROUTE then, told twice", other.right(0, 1, 2, 0), 0);
        other = Camp.bytes(Camp.full(), 0, 6);
        EDGES.is("POST 6 of 6", other.right(0, 6, 64, 0), 1);
        Camp.bytes(other, 0, 1);
        EDGES.is("POST 6 of another ROUTE then", other.right(0, 6, 64, 0), 0);
        EDGES.sentence(17, "ALL that are in it");
        is("ALL of none", () -> by("6"), (x, part) -> x.right(0, -1, 0, part), 1, 1);
        is("ALL of one", () -> by("6", 2), (x, part) -> x.right(0, -1, 0, part), 1, 2);
        is("ALL of two", () -> by("6", 2, 3), (x, part) -> x.right(0, -1, 0, part), 1, 4);
        EDGES.sentence(17, "how many on the mean; 0 by 1, where what is above the line is 0");
        is("the mean of none", () -> by("6"), (x, part) -> x.right(0, -2, 0, part), 0, 1);
        is("the mean of one", () -> by("6", 2), (x, part) -> x.right(0, -2, 0, part), 1, 2);
        is("the mean of three", () -> by("0", 1, 2, 3), (x, part) -> x.right(0, -2, 0, part), 3, 1);
        EDGES.sentence(17, "by how many of twelve: 0 .. 12");
        is("0 of twelve", () -> by("0", 2), (x, part) -> x.right(0, 2, 0, part), 1, 1);
        is("1 of twelve", () -> by("1", 2), (x, part) -> x.right(0, 2, 0, part), 11, 12);
        is("11 of twelve", () -> by("11", 2), (x, part) -> x.right(0, 2, 0, part), 1, 12);
        is("12 of twelve", () -> by("12", 2), (x, part) -> x.right(0, 2, 0, part), 0, 1);
        is("12 of twelve, ALL", () -> by("12", 2), (x, part) -> x.right(0, -1, 0, part), 0, 1);
        is("12 of twelve, the mean", () -> by("12", 2), (x, part) -> x.right(0, -2, 0, part), 0, 1);
    }

    private static void toldTwiceIsASetOfPosts() {
        EDGES.sentence(17, "told twice: a set (bits) of POSTS");
        for (int set : new int[] {-1, 16, 17, 127, 128, Integer.MIN_VALUE, Integer.MAX_VALUE}) {
            for (int post = -2; post < 2; post++) {
                int p = post;
                none("right(0, " + post + ", " + set + ", 0)", (x, s) -> x.right(s, p, set, 0));
            }
        }
        is("of all four", OddsEdgesTest::misheard, (x, part) -> x.right(0, -1, 15, part), 7, 18);
        EDGES.is("of all seven", Camp::full, x -> x.right(0, 0, 127, 0), 1);
        EDGES.refused("of an eighth", Camp::full, x -> x.right(0, 0, 128, 0), NO_LONG);
        EDGES.refused("of POST 0 with no POSTS", () -> Camp.bytes(new WordChanged(), 0),
            x -> x.right(0, -1, 1, 0), NO_LONG);
        is("of none with no POSTS", () -> Camp.bytes(new WordChanged(), 0), (x, p) -> x.right(0, -1, 0, p), 1, 1);
        EDGES.sentence(17, "they have LIKE just if they mishear it both times");
        is("1 of twelve", () -> by("1", 2), (x, part) -> x.right(0, 2, 4, part), 143, 144);
        is("11 of twelve", () -> by("11", 2), (x, part) -> x.right(0, 2, 4, part), 23, 144);
        is("12 of twelve", () -> by("12", 2), (x, part) -> x.right(0, 2, 4, part), 0, 1);
        is("another is told twice", () -> by("1", 2), (x, part) -> x.right(0, 2, 11, part), 11, 12);
        EDGES.sentence(17, "fractions in lowest terms, of six POSTS");
        long below = 144L * 144 * 144 * 144 * 144 * 144;
        Supplier<WordChanged> six = () -> {
            WordChanged x = Camp.bytes(Camp.full(), 0, 1, 2, 3, 4, 5, 6);
            x.law();
            Camp.law(x, "11");
            return x;
        };
        is("ALL, told once", six, (x, part) -> x.right(0, -1, 0, part), 1, 12L * 12 * 12 * 12 * 12 * 12);
        is("ALL, told twice", six, (x, part) -> x.right(0, -1, 126, part), 23L * 23 * 23 * 23 * 23 * 23, below);
        is("the mean, told twice", six, (x, part) -> x.right(0, -2, 126, part), 23, 24);
    }

    private static void whomToTellTwice() {
        EDGES.sentence(18, "the set of n POSTS (0 .. 6)");
        for (int n : new int[] {-1, 7, Integer.MIN_VALUE, Integer.MAX_VALUE}) {
            for (int part = 0; part < 3; part++) {
                int p = part;
                none("twice(0, " + n + ", " + part + ")", (x, s) -> x.twice(s, n, p));
            }
        }
        EDGES.is("none", OddsEdgesTest::misheard, x -> x.twice(0, 0, 2), 0);
        is("ALL with none", OddsEdgesTest::misheard, (x, part) -> x.twice(0, 0, part), 1, 6);
        EDGES.is("six", () -> Camp.bytes(Camp.full(), 0, 1, 2, 3, 4, 5, 6), x -> x.twice(0, 6, 2), 126);
        EDGES.is("five of six", () -> Camp.bytes(Camp.full(), 0, 1, 2, 3, 4, 5, 6), x -> x.twice(0, 5, 2), 122);
        EDGES.sentence(18, "as many as there are in the ROUTE at most");
        EDGES.is("three of three", OddsEdgesTest::misheard, x -> x.twice(0, 3, 2), 14);
        EDGES.is("four of three", OddsEdgesTest::misheard, x -> x.twice(0, 4, 2), 14);
        EDGES.is("six of three", OddsEdgesTest::misheard, x -> x.twice(0, 6, 2), 14);
        is("ALL, six of three", OddsEdgesTest::misheard, (x, part) -> x.twice(0, 6, part), 7, 18);
        EDGES.is("six of none", () -> by("6"), x -> x.twice(0, 6, 2), 0);
        is("ALL, six of none", () -> by("6"), (x, part) -> x.twice(0, 6, part), 1, 1);
        EDGES.sentence(18, "by which ALL have it right likeliest");
        EDGES.is("one", OddsEdgesTest::misheard, x -> x.twice(0, 1, 2), 8);
        is("ALL, one", OddsEdgesTest::misheard, (x, part) -> x.twice(0, 1, part), 7, 24);
        EDGES.is("two", OddsEdgesTest::misheard, x -> x.twice(0, 2, 2), 10);
        EDGES.sentence(18, "a fraction; 0 by 1, where what is above the line is 0");
        is("ALL, if one mishears always", () -> by("p=2?12", 1, 2, 3), (x, part) -> x.twice(0, 3, part), 0, 1);
        is("ALL, if none mishears", () -> by("0", 1, 2, 3), (x, part) -> x.twice(0, 2, part), 1, 1);
        EDGES.sentence(18, "of like ones the least bits");
        EDGES.is("one of 3, 1, 2 alike", () -> by("6", 3, 1, 2), x -> x.twice(0, 1, 2), 2);
        EDGES.is("two of 3, 1, 2 alike", () -> by("6", 3, 1, 2), x -> x.twice(0, 2, 2), 6);
        EDGES.is("one of 3, 2 alike", () -> by("6", 3, 2), x -> x.twice(0, 1, 2), 4);
        EDGES.is("one, though none can have it right", () -> by("12", 3, 2), x -> x.twice(0, 1, 2), 4);
    }

    private static void bestWordOfAllButOld() {
        EDGES.sentence(19, "which of all WORDS but OLD; of like ones the least");
        EDGES.is("OLD 0", () -> by("6", 1, 2), x -> x.word(0), 1);
        EDGES.is("OLD 1", () -> by("6", 1, 2), x -> x.mend(0, 8, 1) + x.word(0), 0);
        EDGES.is("of none", () -> by("6"), x -> x.word(0), 1);
        EDGES.is("with no POSTS", () -> Camp.bytes(new WordChanged(), 0), x -> x.word(0), 1);
        EDGES.is("though none can be heard right", () -> by("12", 1), x -> x.word(0), 1);
        EDGES.sentence(19, "likeliest heard right by ALL as NEW");
        EDGES.is("the last WORD", () -> by("9-w", 1), x -> x.word(0), 9);
        WordChanged x = by("9-w", 1);
        x.mend(0, 8, 9);
        EDGES.is("the last but OLD", x.word(0), 8);
        EDGES.is("by ALL, not by the first", () -> by("p=1&w=4?0;w=5?2;5", 1, 2, 3), y -> y.word(0), 5);
        // Alike told once, as one of two either way; told twice 5 were likelier.
        EDGES.is("told once", () -> by("w=4&p=2?6;w=4?0;w=5&p=1?3;w=5?4;12", 1, 2), y -> y.word(0), 4);
        EDGES.is("NEW stays", x.of(0, 9), 1);
    }

    private static void patrolAt(WordChanged x, int out, int home, int by) {
        x.mend(0, 5, out);
        x.mend(0, 6, home);
        x.mend(0, 7, by);
    }

    /** BY POST 2, heard in 131, HOLDS 60, misheard by 3 of twelve as WORD 2. */
    private static void odds(String when, int out, int home, long above, long below) {
        Supplier<WordChanged> camp = () -> {
            WordChanged x = by("3", 1, 2, 3);
            patrolAt(x, out, home, 2);
            return x;
        };
        is(when, camp, (x, part) -> x.odds(0, 0, part), above, below);
    }

    private static void oddsOfWhichPatrol() {
        EDGES.sentence(20, "PATROLS 0 .. 3");
        for (int patrol : new int[] {-1, 4, Integer.MIN_VALUE, Integer.MAX_VALUE}) {
            none("odds(0, " + patrol + ", 0)", (x, s) -> x.odds(s, patrol, 0));
        }
        is("PATROL 3", OddsEdgesTest::misheard, (x, part) -> x.odds(0, 3, part), 1, 1);
        EDGES.sentence(20, "a POST that is none");
        is("BY 4 of four", () -> {
            WordChanged x = by("3", 1, 2, 3);
            patrolAt(x, 100, 999, 4);
            return x;
        }, (x, part) -> x.odds(0, 0, part), 0, 1);
    }

    private static void oddsIfItIsMisheard() {
        EDGES.sentence(20, "if BY may have LIKE");
        odds("NEW in that minute", 100, 131, 3, 4);
        odds("NEW in 999", 999, 999, 3, 4);
        odds("NEW a minute ahead", 100, 130, 0, 1);
        is("the first in the ROUTE", () -> {
            WordChanged x = by("3", 2);
            patrolAt(x, 100, 999, 2);
            return x;
        }, (x, part) -> x.odds(0, 0, part), 3, 4);
        EDGES.sentence(20, "OLD is let in then, till HOLDS are over");
        odds("OLD a minute ahead", 99, 130, 1, 1);
        odds("OLD in the last of HOLDS", 99, 190, 1, 1);
        odds("OLD a minute behind", 99, 191, 0, 1);
        EDGES.sentence(20, "OLD is let in then, though like NEW, till HOLDS are over");
        alike("in the last of HOLDS", 190, 2, 1, 1);
        alike("a minute behind", 191, 2, 3, 4);
        alike("a minute behind, LIKE alike too", 191, 1, 1, 1);
        EDGES.sentence(20, "LIKE in place of NEW at it");
        is("LIKE is OLD, OLD a minute behind", () -> {
            WordChanged x = by("3", 1, 2, 3);
            patrolAt(x, 99, 191, 2);
            x.mend(1, 4, 0);
            return x;
        }, (x, part) -> x.odds(0, 0, part), 1, 4);
        is("POST 0 never", () -> {
            WordChanged x = by("12", 1, 2, 3);
            patrolAt(x, 100, 100, 0);
            return x;
        }, (x, part) -> x.odds(0, 0, part), 1, 1);
        is("always", () -> {
            WordChanged x = by("12", 1, 2, 3);
            patrolAt(x, 100, 999, 2);
            return x;
        }, (x, part) -> x.odds(0, 0, part), 0, 1);
        EDGES.sentence(20, "a POST that is not in the ROUTE: OLD always");
        is("OLD in 999", () -> {
            WordChanged x = by("3", 1);
            patrolAt(x, 99, 999, 2);
            return x;
        }, (x, part) -> x.odds(0, 0, part), 1, 1);
    }

    private static void alike(String when, int home, int like, long above, long below) {
        Supplier<WordChanged> camp = () -> {
            WordChanged x = by("3", 1, 2, 3);
            patrolAt(x, 99, home, 2);
            x.mend(0, 8, 1);
            x.mend(1, 4, like);
            return x;
        };
        is(when, camp, (x, part) -> x.odds(0, 0, part), above, below);
    }

    private static void guessesAreOneToTen() {
        EDGES.sentence(21, "n tries (1 .. 10)");
        for (int n : new int[] {0, -1, 11, Integer.MIN_VALUE, Integer.MAX_VALUE}) {
            none("guess(0, 1120, " + n + ", 0)", (x, s) -> x.guess(s, 1120, n, 0));
        }
        is("one WORD of ten, one try", OddsEdgesTest::misheard, (x, part) -> x.guess(0, 1109, 1, part), 1, 10);
        is("one WORD of ten, nine tries", OddsEdgesTest::misheard, (x, part) -> x.guess(0, 1109, 9, part), 9, 10);
        is("one WORD of ten, ten tries", OddsEdgesTest::misheard, (x, part) -> x.guess(0, 1109, 10, part), 1, 1);
        is("two of ten, one try", OddsEdgesTest::misheard, (x, part) -> x.guess(0, 1110, 1, part), 1, 5);
        is("two of ten, eight tries", OddsEdgesTest::misheard, (x, part) -> x.guess(0, 1110, 8, part), 44, 45);
        is("two of ten, nine tries", OddsEdgesTest::misheard, (x, part) -> x.guess(0, 1110, 9, part), 1, 1);
        is("two of ten, ten tries", OddsEdgesTest::misheard, (x, part) -> x.guess(0, 1110, 10, part), 1, 1);
        EDGES.sentence(21, "at a POST in a minute");
        is("the last of HOLDS", OddsEdgesTest::misheard, (x, part) -> x.guess(0, 1169, 1, part), 1, 5);
        is("a minute behind", OddsEdgesTest::misheard, (x, part) -> x.guess(0, 1170, 1, part), 1, 10);
        is("not in the ROUTE", () -> by("12", 1), (x, part) -> x.guess(0, 2999, 1, part), 1, 10);
        is("alike", () -> by("0", 1), (x, part) -> x.mend(0, 8, 1) + x.guess(0, 1120, 1, part), 1, 10);
        EDGES.sentence(21, "nothing is told of misheard ones");
        is("all mishear", () -> by("12", 1), (x, part) -> x.guess(0, 1120, 1, part), 1, 5);
    }

    private static WordChanged toldAt0() {
        WordChanged x = misheard();
        x.mend(0, 10, 0);
        return x;
    }

    private static void guessWhere() {
        EDGES.sentence(21, "pm: 1000 times the POST, and the minute 0 .. 999");
        for (int pm : new int[] {-1, -1000, 4000, 4999, 7000, Integer.MIN_VALUE, Integer.MAX_VALUE}) {
            none("guess(0, " + pm + ", 1, 0)", (x, s) -> x.guess(s, pm, 1, 0));
        }
        EDGES.refused("guess(0, 0, 1, 0) with no POSTS", () -> Camp.bytes(new WordChanged(), 0),
            x -> x.guess(0, 0, 1, 0), NO_LONG);
        is("pm 0", OddsEdgesTest::misheard, (x, part) -> x.guess(0, 0, 3, part), 3, 10);
        is("pm 0, AT 0", () -> toldAt0(), (x, part) -> x.guess(0, 0, 1, part), 1, 5);
        is("pm 1000, AT 0", () -> toldAt0(), (x, part) -> x.guess(0, 1000, 1, part), 1, 10);
        is("pm 3999", OddsEdgesTest::misheard, (x, part) -> x.guess(0, 3999, 3, part), 3, 10);
        is("pm 6999 of seven", Camp::full, (x, part) -> x.guess(0, 6999, 3, part), 3, 10);
    }

    private static void askedInThought() {
        EDGES.sentence(17, "in thought");
        EDGES.refused("right(0, -1, 2, 0)", Camp::rich, x -> x.right(0, -1, 2, 0), 2);
        EDGES.sentence(18, "in thought");
        EDGES.refused("twice(0, 1, 2)", Camp::rich, x -> x.twice(0, 1, 2), 8);
        EDGES.sentence(19, "in thought");
        EDGES.refused("word(0)", Camp::rich, x -> x.word(0), 1);
        EDGES.sentence(20, "in thought");
        EDGES.refused("odds(0, 0, 1)", Camp::rich, x -> x.odds(0, 0, 1), 4);
        EDGES.sentence(21, "in thought");
        EDGES.refused("guess(0, 1120, 9, 1)", Camp::rich, x -> x.guess(0, 1120, 9, 1), 1);
    }

    public static void main(String[] args) {
        shelvesRefused();
        partIsAboveOrBelow();
        rightOfWhichPost();
        toldTwiceIsASetOfPosts();
        whomToTellTwice();
        bestWordOfAllButOld();
        oddsOfWhichPatrol();
        oddsIfItIsMisheard();
        guessesAreOneToTen();
        guessWhere();
        askedInThought();
        EDGES.end();
    }
}
