import java.util.function.Supplier;
import java.util.function.ToLongFunction;

/** Promises 22 to 26, each edge that the document names: judge, which, when, oddWord, drawn. */
public final class SaidEdgesTest {
    private static final Edges EDGES = new Edges("edges of said");
    private static final int BAD = Edges.BAD, NOT = Edges.NOT;
    private static final int NOTHING_THERE = Edges.NOTHING_THERE, OTHER_KIND = Edges.OTHER_KIND;

    /** judge, when or oddWord. */
    private interface Asked {
        long of(WordChanged x, int rs);
    }

    /** The ROUTE 1, 2, 3 on SHELF 0, AT 100: heard in 110, 131, 157; OLD 0, NEW 1, HOLDS 60; SAID on SHELF 1. */
    private static WordChanged said(long... threes) {
        WordChanged x = Camp.four();
        x.mend(0, 10, 100);
        Camp.bytes(x, 0, 1, 2, 3);
        return Camp.shorts(x, 1, threes);
    }

    /** As said(), with another ROUTE. */
    private static WordChanged saidBy(long route, long... threes) {
        return Camp.bytes(said(threes), 0, route);
    }

    private static void rsRefused(int promise, String call, int due, Asked asked) {
        EDGES.sentence(promise, "rs: 10 times the SHELF of the ROUTE, and that of what was SAID; BAD");
        for (int rs : new int[] {-1, -10, 6, 7, 8, 9, 16, 59, 60, 61, 100, 1000000, Integer.MIN_VALUE,
                Integer.MAX_VALUE}) {
            EDGES.refused(call + "(" + rs + ")", Camp::rich, x -> asked.of(x, rs), BAD);
        }
        for (int route = 0; route < 6; route++) {
            for (int said = 0; said < 6; said++) {
                if (route == said) continue;
                // The SHELVES that rs does not tell hold nothing.
                WordChanged x = Camp.four();
                Camp.bytes(x, route, 1, 2, 3);
                Camp.shorts(x, said, 1, 110, 0, 1, 120, 1);
                x.mend(0, 10, 100);
                EDGES.is(call + "(" + (10 * route + said) + ")", asked.of(x, 10 * route + said), due);
            }
        }
        EDGES.sentence(promise, "BAD is named ahead of -11, -12");
        EDGES.refused(call + "(46)", Camp::rich, y -> asked.of(y, 46), BAD);
        EDGES.refused(call + "(64)", Camp::rich, y -> asked.of(y, 64), BAD);
        EDGES.refused(call + "(36)", Camp::rich, y -> asked.of(y, 36), BAD);
        EDGES.sentence(promise, "-11 nothing is there where something is wanted");
        EDGES.refused(call + "(41), no ROUTE", Camp::rich, y -> asked.of(y, 41), NOTHING_THERE);
        EDGES.refused(call + "(4), nothing SAID", Camp::rich, y -> asked.of(y, 4), NOTHING_THERE);
        EDGES.refused(call + "(44), neither", Camp::rich, y -> asked.of(y, 44), NOTHING_THERE);
        EDGES.sentence(promise, "of several the one named first: -11, -12");
        EDGES.refused(call + "(40), and bytes SAID", Camp::rich, y -> asked.of(y, 40), NOTHING_THERE);
        EDGES.refused(call + "(14), of shorts", Camp::rich, y -> asked.of(y, 14), NOTHING_THERE);
        EDGES.sentence(promise, "-12 (no ROW of bytes; SAID: a ROW of shorts)");
        EDGES.refused(call + "(11), a ROUTE of shorts", Camp::rich, y -> asked.of(y, 11), OTHER_KIND);
        EDGES.refused(call + "(31), a BODY", Camp::rich, y -> asked.of(y, 31), OTHER_KIND);
        EDGES.refused(call + "(0), bytes SAID", Camp::rich, y -> asked.of(y, 0), OTHER_KIND);
        EDGES.refused(call + "(3), a BODY SAID", Camp::rich, y -> asked.of(y, 3), OTHER_KIND);
        for (int sort = 2; sort < 5; sort++) {
            int s = sort;
            Supplier<WordChanged> camp = () -> Camp.row(Camp.rich(), 5, s, 0, 0, 0);
            EDGES.refused(call + "(51), a ROUTE of sort " + sort, camp, y -> asked.of(y, 51), OTHER_KIND);
            EDGES.refused(call + "(5), SAID of sort " + sort, camp, y -> asked.of(y, 5), OTHER_KIND);
        }
    }

    private static void shelvesRefused() {
        rsRefused(22, "judge", NOT, WordChanged::judge);
        rsRefused(24, "when", 41, WordChanged::when);
        rsRefused(25, "oddWord", 1, WordChanged::oddWord);
    }

    private static void judged(int due, long... threes) {
        EDGES.is("judge of " + java.util.Arrays.toString(threes), said(threes).judge(1), due);
    }

    private static void aThreeThatIsNotSo() {
        EDGES.sentence(22, "the first three that is not so; NOT");
        judged(NOT);
        judged(NOT, 1, 110, 1, 2, 131, 1);
        judged(0, 1, 109, 1, 2, 130, 1);
        judged(1, 1, 110, 1, 2, 130, 1);
        EDGES.refused("judge of those that are all so", () -> Camp.shorts(Camp.rich(), 1, 1, 110, 1),
            x -> x.judge(1), NOT);
        long[] twenty = new long[60];
        for (int i = 1; i < 60; i += 3) twenty[i] = 50;
        judged(NOT, twenty);
        twenty[59] = 1;
        judged(19, twenty);
        EDGES.sentence(22, "by which somebody was let in: OLD till it hears NEW, and in HOLDS minutes");
        judged(NOT, 1, 0, 0);
        judged(NOT, 1, 169, 0);
        judged(0, 1, 170, 0);
        judged(NOT, 0, 159, 0);
        judged(0, 0, 160, 0);
        EDGES.sentence(22, "NEW from that minute on");
        judged(0, 1, 109, 1);
        judged(NOT, 1, 110, 1);
        judged(0, 0, 99, 1);
        judged(NOT, 0, 100, 1);
        EDGES.sentence(22, "a POST that is not in the ROUTE: OLD always");
        EDGES.is("OLD", saidBy(1, 2, 999, 0).judge(1), NOT);
        EDGES.is("NEW", saidBy(1, 2, 999, 1).judge(1), 0);
    }

    private static void whatIsNoneIsNotSo() {
        EDGES.sentence(22, "also what is none: a POST");
        for (long post : new long[] {-1, 4, 7, Short.MIN_VALUE, Short.MAX_VALUE}) {
            judged(0, post, 50, 0);
            judged(1, 1, 50, 0, post, 50, 0);
        }
        judged(NOT, 3, 50, 0);
        judged(NOT, 0, 50, 0);
        EDGES.is("POST 6 of seven", Camp.shorts(Camp.full(), 1, 6, 50, 0).judge(1), NOT);
        EDGES.is("POST 7 of seven", Camp.shorts(Camp.full(), 1, 7, 50, 0).judge(1), 0);
        EDGES.sentence(22, "also what is none: a WORD");
        for (long word : new long[] {-1, 10, Short.MIN_VALUE, Short.MAX_VALUE}) judged(0, 1, 120, word);
        for (long word = 2; word < 10; word++) judged(0, 1, 120, word);
        EDGES.sentence(22, "a minute: the first is 0, above 999 there are more");
        judged(NOT, 1, 0, 0);
        judged(NOT, 1, 1000, 1);
        judged(NOT, 1, Short.MAX_VALUE, 1);
    }

    private static void whatLacksIsNotSo() {
        EDGES.sentence(22, "also what lacks");
        judged(0, 1);
        judged(0, 1, 50);
        judged(NOT, 1, 50, 0);
        judged(1, 1, 50, 0, 1);
        judged(1, 1, 50, 0, 1, 50);
        judged(NOT, 1, 50, 0, 1, 50, 0);
        judged(0, 1, 109, 1, 1);
        for (int lacking = 1; lacking < 3; lacking++) {
            long[] threes = java.util.Arrays.copyOf(new long[] {1, 50, 0, 1, 50, 0}, 3 + lacking);
            String name = " with " + lacking + " of a three";
            EDGES.sentence(23, "are so (also what lacks)");
            EDGES.is("how many" + name, said(threes).which(1, 0), 0);
            EDGES.refused("the first" + name, () -> Camp.shorts(Camp.rich(), 1, threes), x -> x.which(1, 1), NOT);
            EDGES.sentence(24, "all is so (also what lacks); NOT");
            EDGES.refused("when" + name, () -> Camp.shorts(Camp.rich(), 1, threes), x -> x.when(1), NOT);
            EDGES.sentence(25, "all is so (also what lacks); NOT");
            EDGES.refused("oddWord" + name, () -> Camp.shorts(Camp.rich(), 1, threes), x -> x.oddWord(1), NOT);
        }
    }

    private static void whatIsNoneIsNotSoByAnyWay() {
        long[][] none = {{4, 50, 0}, {-1, 50, 0}, {1, 50, 10}, {1, 50, -1}};
        for (long[] three : none) {
            String name = " with " + java.util.Arrays.toString(three);
            EDGES.sentence(23, "are so (also what is none)");
            EDGES.is("how many" + name, said(three).which(1, 0), 0);
            EDGES.is("the first" + name, said(three).which(1, 1), NOT);
            EDGES.sentence(24, "all is so (also what is none); NOT");
            EDGES.is("when" + name, said(three).when(1), NOT);
            EDGES.sentence(25, "all is so (also what is none); NOT");
            EDGES.is("oddWord" + name, said(three).oddWord(1), NOT);
        }
    }

    private static void whichShelfAndWhat() {
        EDGES.sentence(23, "how many (what 0), the first (1); BAD");
        for (int what : new int[] {-1, 2, Integer.MIN_VALUE, Integer.MAX_VALUE}) {
            EDGES.refused("which(1, " + what + ")", Camp::rich, x -> x.which(1, what), BAD);
            EDGES.refused("which(4, " + what + "), ahead of -11", Camp::rich, x -> x.which(4, what), BAD);
            EDGES.refused("which(0, " + what + "), ahead of -12", Camp::rich, x -> x.which(0, what), BAD);
        }
        EDGES.sentence(23, "shelf: SAID, a ROW of shorts; BAD, -11, -12");
        for (int what = 0; what < 2; what++) {
            int w = what;
            for (int shelf : new int[] {-1, 6, Integer.MIN_VALUE, Integer.MAX_VALUE}) {
                EDGES.refused("which(" + shelf + ", " + w + ")", Camp::rich, x -> x.which(shelf, w), BAD);
            }
            EDGES.refused("which(4, " + w + ") of nothing", Camp::rich, x -> x.which(4, w), NOTHING_THERE);
            EDGES.refused("which(0, " + w + ") of bytes", Camp::rich, x -> x.which(0, w), OTHER_KIND);
            EDGES.refused("which(2, " + w + ") of ints", Camp::rich, x -> x.which(2, w), OTHER_KIND);
            EDGES.refused("which(3, " + w + ") of a BODY", Camp::rich, x -> x.which(3, w), OTHER_KIND);
            for (int sort = 3; sort < 5; sort++) {
                int s = sort;
                EDGES.refused("which(5, " + w + ") of sort " + sort, () -> Camp.row(Camp.rich(), 5, s, 0, 0, 0),
                    x -> x.which(5, w), OTHER_KIND);
            }
            EDGES.is("which(5, " + w + ")", Camp.shorts(Camp.rich(), 5), x -> x.which(5, w), w == 0 ? 6 : 123);
            EDGES.is("which(0, " + w + ")", Camp.shorts(Camp.rich(), 0), x -> x.which(0, w), w == 0 ? 6 : 123);
        }
    }

    private static void whichOfHowMany() {
        EDGES.sentence(23, "over all POSTS but 0");
        int[] ways = {1, 1, 1, 2, 6, 24, 120, 720};
        int[] first = {0, 0, 1, 12, 123, 1234, 12345, 123456};
        for (int posts = 0; posts < 8; posts++) {
            WordChanged x = Camp.shorts(new WordChanged(), 1);
            for (int i = 0; i < posts; i++) x.post(i, i);
            EDGES.is("how many, of " + posts + " POSTS", x.which(1, 0), ways[posts]);
            EDGES.is("the first, of " + posts + " POSTS", x.which(1, 1), first[posts]);
        }
        EDGES.sentence(23, "how many ROUTES are so; the first; NOT");
        // POST 3 hears in 105 if it is first, and 1 and 2 behind it no earlier than in 121.
        EDGES.is("NEW in 105", said(3, 105, 1).which(1, 0), 2);
        EDGES.is("NEW in 105, the first", said(3, 105, 1).which(1, 1), 312);
        EDGES.is("NEW in 104", said(3, 104, 1).which(1, 0), 0);
        EDGES.refused("NEW in 104, the first", () -> Camp.shorts(Camp.rich(), 1, 3, 104, 1), x -> x.which(1, 1), NOT);
        EDGES.is("POST 0 in 99", said(0, 99, 1).which(1, 0), 0);
        EDGES.is("POST 0 in 100", said(0, 100, 1).which(1, 0), 6);
        EDGES.is("OLD at POST 0 in 159", said(0, 159, 0).which(1, 0), 6);
        EDGES.is("OLD at POST 0 in 160", said(0, 160, 0).which(1, 0), 0);
        EDGES.is("a WORD that is neither", said(1, 999, 5).which(1, 0), 0);
        EDGES.is("the last one", said(3, 105, 1, 2, 131, 1).which(1, 1), 321);
        EDGES.is("just one", said(3, 105, 1, 2, 131, 1).which(1, 0), 1);
    }

    private static void whenIs0To999() {
        EDGES.sentence(24, "the AT (0 .. 999; the least)");
        EDGES.is("nothing SAID", said(), x -> x.when(1), 0);
        EDGES.is("NEW at POST 0 in 0", said(0, 0, 1), x -> x.when(1), 0);
        EDGES.is("NEW at POST 1 in 10", said(1, 10, 1), x -> x.when(1), 0);
        EDGES.is("OLD at POST 0 in 59", said(0, 59, 0), x -> x.when(1), 0);
        EDGES.is("OLD at POST 0 in 60", said(0, 60, 0), x -> x.when(1), 1);
        EDGES.is("OLD at POST 0 in 1058", said(0, 1058, 0), x -> x.when(1), 999);
        EDGES.is("OLD at POST 1 in 1068", said(1, 1068, 0), x -> x.when(1), 999);
        EDGES.is("both in 59", said(0, 59, 0, 0, 0, 1), x -> x.when(1), 0);
        EDGES.sentence(24, "by which all is so by a ROUTE; NOT");
        notSo("NEW at POST 1 in 9", x -> x.when(1), 1, 9, 1);
        notSo("OLD at POST 0 in 1059", x -> x.when(1), 0, 1059, 0);
        notSo("OLD at POST 1 in 1069", x -> x.when(1), 1, 1069, 0);
        notSo("both, a minute too far", x -> x.when(1), 0, 60, 0, 0, 0, 1);
        notSo("a WORD that is neither", x -> x.when(1), 0, 999, 5);
        EDGES.is("OLD at one not in the ROUTE", saidBy(1, 2, 999, 0), x -> x.when(1), 0);
        EDGES.is("NEW at one not in the ROUTE", saidBy(1, 2, 999, 1), x -> x.when(1), NOT);
        EDGES.is("and OLD at POST 0 in 60", saidBy(1, 2, 999, 0, 0, 60, 0), x -> x.when(1), 1);
        EDGES.is("nothing SAID of it, OLD at POST 0 in 60", saidBy(1, 0, 60, 0), x -> x.when(1), 1);
        EDGES.is("AT stays", said(0, 60, 0), x -> x.when(1) + x.of(0, 10), 101);
        WordChanged x = said(0, 999, 0);
        x.mend(0, 11, 0);
        EDGES.is("OLD in 999, HOLDS 0", x.when(1), NOT);
        x.put(1, 1, 998);
        EDGES.is("OLD in 998, HOLDS 0", x.when(1), 999);
        x.mend(0, 8, 1);
        EDGES.is("alike", Camp.shorts(x, 1, 1, 0, 1), y -> y.when(1), 0);
    }

    private static void notSo(String name, ToLongFunction<WordChanged> asked, long... threes) {
        EDGES.refused(name, () -> Camp.shorts(Camp.rich(), 1, threes), asked, NOT);
    }

    private static void oddWordIsTheLeast() {
        EDGES.sentence(25, "the least WORD by which, as NEW, all is so");
        EDGES.is("nothing SAID", said(), x -> x.oddWord(1), 0);
        EDGES.is("OLD alone", said(1, 169, 0), x -> x.oddWord(1), 0);
        EDGES.is("WORD 0, when OLD is over", said(1, 170, 0), x -> x.oddWord(1), 0);
        EDGES.is("WORD 9", said(1, 110, 9), x -> x.oddWord(1), 9);
        EDGES.is("OLD, then WORD 1", said(1, 169, 0, 1, 110, 1), x -> x.oddWord(1), 1);
        EDGES.is("with no POSTS", Camp.shorts(Camp.bytes(new WordChanged(), 0), 1), x -> x.oddWord(1), 0);
        EDGES.is("WORD 4 at POST 0", said(0, 100, 4), x -> x.oddWord(1), 4);
        EDGES.is("WORD 4 at POST 0 a minute ahead", said(0, 99, 4), x -> x.oddWord(1), NOT);
        EDGES.is("WORD 4 at POST 3", said(3, 157, 4), x -> x.oddWord(1), 4);
        EDGES.is("WORD 4 at POST 3 a minute ahead", said(3, 156, 4), x -> x.oddWord(1), NOT);
        EDGES.sentence(25, "NOT");
        notSo("WORD 9 a minute ahead", x -> x.oddWord(1), 1, 109, 9);
        notSo("OLD a minute behind, then WORD 1", x -> x.oddWord(1), 1, 170, 0, 1, 110, 1);
        notSo("two WORDS", x -> x.oddWord(1), 1, 110, 8, 1, 110, 9);
        EDGES.is("NEW stays", said(1, 110, 9), x -> x.oddWord(1) + x.of(0, 9), 10);
    }

    private static void nothingIsMisheard() {
        WordChanged x = said(3, 157, 1, 1, 110, 1);
        EDGES.is("law() of 12", Camp.law(x, "12"), 1);
        EDGES.sentence(22, "by which somebody was let in (no mishearing)");
        EDGES.is("judge(1)", x.judge(1), NOT);
        EDGES.sentence(23, "by which somebody was let in (no mishearing)");
        EDGES.is("which(1, 1)", x.which(1, 1), 123);
        EDGES.sentence(24, "by which somebody was let in (no mishearing)");
        EDGES.is("when(1)", x.when(1), 0);
        EDGES.sentence(25, "by which somebody was let in (no mishearing)");
        EDGES.is("oddWord(1)", x.oddWord(1), 1);
    }

    private static void drawnRefused() {
        EDGES.sentence(26, "n nights (1 .. 30)");
        for (int n : new int[] {0, -1, 31, 1000, Integer.MIN_VALUE}) {
            drawnBad(x -> x.drawn(0, 7, n, 0), x -> x.drawn(4, 7, n, 0), x -> x.drawn(1, 7, n, 1));
        }
        EDGES.is("1 night", by("0"), x -> x.drawn(0, 7, 1, 0), 3);
        EDGES.is("30 nights", by("0"), x -> x.drawn(0, 7, 30, 0), 90);
        EDGES.sentence(26, "right ones (what 0), PATROLS (1)");
        for (int what : new int[] {-1, 2, Integer.MIN_VALUE, Integer.MAX_VALUE}) {
            drawnBad(x -> x.drawn(0, 7, 1, what), x -> x.drawn(4, 7, 1, what), x -> x.drawn(1, 7, 1, what));
        }
        EDGES.wantsRoute(26, "drawn(.., 7, 1, 0)", (x, s) -> x.drawn(s, 7, 1, 0), BAD, NOTHING_THERE, OTHER_KIND);
    }

    private static void drawnBad(ToLongFunction<WordChanged> route, ToLongFunction<WordChanged> nothing,
            ToLongFunction<WordChanged> shorts) {
        EDGES.refused("of a ROUTE", Camp::rich, route, BAD);
        EDGES.refused("of nothing, BAD ahead of -11", Camp::rich, nothing, BAD);
        EDGES.refused("of shorts, BAD ahead of -12", Camp::rich, shorts, BAD);
    }

    private static WordChanged by(String law) {
        WordChanged x = said();
        Camp.law(x, law);
        return x;
    }

    private static void drawnByASeed() {
        EDGES.sentence(26, "it mishears, if (z >>> 8) % 12 is below what THE LAW gives");
        for (int seed : new int[] {0, 1, -1, 12345, Integer.MIN_VALUE, Integer.MAX_VALUE}) {
            for (int wrong = 0; wrong <= 12; wrong++) {
                int z = seed;
                int right = 0;
                for (int told = 0; told < 90; told++) {
                    z = z * 1103515245 + 12345;
                    if ((z >>> 8) % 12 >= wrong) right++;
                }
                int s = seed;
                String name = "SEED " + seed + ", " + wrong + " of twelve";
                EDGES.is(name, by("" + wrong), x -> x.drawn(0, s, 30, 0), right);
            }
        }
        EDGES.is("no POST", Camp.bytes(by("6"), 0), x -> x.drawn(0, 7, 30, 0), 0);
        EDGES.is("no POST, PATROLS", Camp.bytes(by("6"), 0), x -> x.drawn(0, 7, 30, 1), 120);
        EDGES.is("no POSTS at all", Camp.bytes(new WordChanged(), 0), x -> x.drawn(0, 7, 30, 1), 0);
    }

    private static void patrolsOfDrawnNights() {
        EDGES.sentence(26, "PATROLS LET IN, all together (none ahead of its draw)");
        // One of the four comes to POST 1, heard in 110 and always misheard as WORD 2.
        int[][] cases = {{99, 109, 120}, {99, 169, 120}, {99, 170, 90}, {100, 109, 90}, {100, 110, 90}, {100, 999, 90}};
        for (int[] c : cases) {
            WordChanged x = by("12");
            x.mend(0, 5, c[0]);
            x.mend(0, 6, c[1]);
            x.mend(0, 7, 1);
            EDGES.is("OUT " + c[0] + ", HOME " + c[1], x.drawn(0, 7, 30, 1), c[2]);
        }
        WordChanged x = by("12");
        x.mend(0, 5, 100);
        x.mend(0, 6, 110);
        x.mend(0, 7, 1);
        x.mend(1, 4, 1);
        EDGES.is("its LIKE is itself", x.drawn(0, 7, 30, 1), 120);
        x.mend(0, 6, 109);
        EDGES.is("its LIKE is itself, a minute ahead", x.drawn(0, 7, 30, 1), 90);
        EDGES.sentence(26, "POST 0 never does");
        x = by("12");
        x.mend(0, 5, 100);
        x.mend(0, 6, 100);
        EDGES.is("NEW at POST 0", x.drawn(0, 7, 30, 1), 120);
    }

    private static void askedInThought() {
        EDGES.sentence(22, "said");
        EDGES.refused("judge(1)", Camp::rich, x -> x.judge(1), NOT);
        EDGES.sentence(23, "said");
        EDGES.refused("which(1, 0)", Camp::rich, x -> x.which(1, 0), 2);
        EDGES.sentence(24, "said");
        EDGES.refused("when(1)", Camp::rich, x -> x.when(1), 50);
        EDGES.sentence(25, "said");
        EDGES.refused("oddWord(1)", Camp::rich, x -> x.oddWord(1), 1);
        EDGES.sentence(26, "drawn");
        EDGES.refused("drawn(0, 7, 30, 1)", Camp::rich, x -> x.drawn(0, 7, 30, 1), letInOfRich(7));
    }

    /** Of rich(): three PATROLS at POST 0 and, in 160 with NEW, one at POST 3, misheard by 9 of twelve. */
    private static long letInOfRich(int seed) {
        int z = seed;
        long all = 0;
        for (int told = 0; told < 90; told++) {
            z = z * 1103515245 + 12345;
            if (told % 3 == 2) all += 3 + ((z >>> 8) % 12 >= 9 ? 1 : 0);
        }
        return all;
    }

    public static void main(String[] args) {
        shelvesRefused();
        aThreeThatIsNotSo();
        whatIsNoneIsNotSo();
        whatLacksIsNotSo();
        whatIsNoneIsNotSoByAnyWay();
        whichShelfAndWhat();
        whichOfHowMany();
        whenIs0To999();
        oddWordIsTheLeast();
        nothingIsMisheard();
        drawnRefused();
        drawnByASeed();
        patrolsOfDrawnNights();
        askedInThought();
        EDGES.end();
    }
}
