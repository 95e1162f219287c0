import java.util.function.Supplier;

/** Promises 9 to 16, each edge that the document names: hears, route, letsIn, patrol, holdsFor .. first. */
public final class ThoughtEdgesTest {
    private static final Edges EDGES = new Edges("edges in thought");
    private static final int BAD = Edges.BAD, NOT = Edges.NOT, NOT_THEN = -3;

    private static void shelvesRefused() {
        wantsRoute(9, "hears(.., 1)", (x, s) -> x.hears(s, 1));
        wantsRoute(11, "letsIn(.., 1000)", (x, s) -> x.letsIn(s, 1000));
        wantsRoute(12, "patrol(.., 0)", (x, s) -> x.patrol(s, 0));
        wantsRoute(13, "holdsFor(..)", (x, s) -> x.holdsFor(s));
        wantsRoute(14, "stranger(.., 1000, 1)", (x, s) -> x.stranger(s, 1000, 1));
        wantsRoute(15, "safe(.., 1000, 1)", (x, s) -> x.safe(s, 1000, 1));
        wantsRoute(16, "first(.., 0)", (x, s) -> x.first(s, 0));
    }

    private static void wantsRoute(int promise, String call, Edges.Asked asked) {
        EDGES.wantsRoute(promise, call, asked, BAD, Edges.NOTHING_THERE, Edges.OTHER_KIND);
    }

    /** BAD is named ahead of -11 and -12: so also of a SHELF with nothing, and of one with another kind. */
    private static void bad(int promise, String words, String call, Edges.Asked asked) {
        EDGES.sentence(promise, words + "; BAD");
        EDGES.refused(call, Camp::rich, x -> asked.of(x, 0), BAD);
        EDGES.sentence(promise, words + "; BAD is named ahead of -11, -12");
        EDGES.refused(call + " of nothing", Camp::rich, x -> asked.of(x, 4), BAD);
        EDGES.refused(call + " of another kind", Camp::rich, x -> asked.of(x, 1), BAD);
    }

    /** pm that is none: the POSTS are 0 .. 3, of two of them no POST. */
    private static void pmRefused(int promise, String call, java.util.function.IntFunction<Edges.Asked> asked) {
        for (int pm : new int[] {-1, -1000, 4000, 4999, 7000, Integer.MIN_VALUE, Integer.MAX_VALUE}) {
            bad(promise, "pm: 1000 times the POST, and the minute 0 .. 999", call + " with pm " + pm, asked.apply(pm));
        }
        EDGES.sentence(promise, "pm: 1000 times the POST 0 .. 6, and the minute");
        EDGES.refused(call + " with pm 7000", Camp::full, x -> asked.apply(7000).of(x, 0), BAD);
        EDGES.refused(call + " with pm 0 and no POSTS", () -> Camp.bytes(new WordChanged(), 0),
            x -> asked.apply(0).of(x, 0), BAD);
    }

    /** The ROUTE 1, 2, 3 on SHELF 0, AT 100: heard in 110, 131, 157; HOLDS 60. */
    private static WordChanged told() {
        WordChanged x = Camp.four();
        x.mend(0, 10, 100);
        return Camp.bytes(x, 0, 1, 2, 3);
    }

    private static WordChanged toldTo(long... route) {
        return Camp.bytes(told(), 0, route);
    }

    private static void hearsOfWhichPost() {
        for (int post : new int[] {-3, 4, 6, 7, Integer.MIN_VALUE, Integer.MAX_VALUE}) {
            bad(9, "HEARS (post 0 on); the LATEST (-1); all together (-2)", "hears(0, " + post + ")",
                (x, s) -> x.hears(s, post));
        }
        EDGES.sentence(9, "HEARS (post 0 on)");
        EDGES.is("hears(0, 0)", told(), x -> x.hears(0, 0), 100);
        EDGES.is("hears(0, 3)", told(), x -> x.hears(0, 3), 157);
        EDGES.is("hears(0, 6)", Camp.bytes(Camp.full(), 0, 6), x -> x.hears(0, 6), 220);
        EDGES.sentence(9, "POST 0: AT; 0 .. 999");
        WordChanged x = told();
        x.mend(0, 10, 0);
        EDGES.is("hears(0, 0), AT 0", x.hears(0, 0), 0);
        EDGES.is("hears(0, 1), AT 0", x.hears(0, 1), 10);
        x.mend(0, 10, 999);
        EDGES.is("hears(0, 0), AT 999", x.hears(0, 0), 999);
        EDGES.is("hears(0, 1), AT 999", x.hears(0, 1), 1009);
        EDGES.is("hears(0, -1), AT 999", x.hears(0, -1), 1056);
        EDGES.is("hears(0, -2), AT 999", x.hears(0, -2), 98);
        EDGES.sentence(9, "POST 0, with no POSTS: BAD");
        EDGES.refused("hears(0, 0)", () -> Camp.bytes(new WordChanged(), 0), y -> y.hears(0, 0), BAD);
    }

    private static void hearsNot() {
        EDGES.sentence(9, "NOT: it is not in it");
        Supplier<WordChanged> two = () -> Camp.bytes(Camp.rich(), 0, 2);
        EDGES.refused("hears(0, 1)", two, x -> x.hears(0, 1), NOT);
        EDGES.refused("hears(0, 3)", two, x -> x.hears(0, 3), NOT);
        EDGES.is("hears(0, 0)", two, x -> x.hears(0, 0), 100);
        EDGES.is("hears(0, 2)", two, x -> x.hears(0, 2), 130);
        EDGES.sentence(9, "the LATEST (-1; none: AT)");
        EDGES.is("of none", () -> toldTo(), x -> x.hears(0, -1), 100);
        EDGES.is("of one", () -> toldTo(2), x -> x.hears(0, -1), 130);
        EDGES.is("with no POSTS", () -> Camp.bytes(new WordChanged(), 0, 1), x -> x.hears(0, -1), 0);
        EDGES.sentence(9, "all minutes behind AT together (-2)");
        EDGES.is("of none", () -> toldTo(), x -> x.hears(0, -2), 0);
        EDGES.is("of one", () -> toldTo(2), x -> x.hears(0, -2), 30);
    }

    private static void aRouteEnds() {
        EDGES.sentence(9, "one that is none, 0, or came before ends it");
        for (long wrong : new long[] {0, 3, 4, 7, 127, -1, -128}) {
            WordChanged x = toldTo(3, wrong, 1);
            EDGES.is("hears(0, 3) ahead of " + wrong, x.hears(0, 3), 105);
            EDGES.is("hears(0, 1) behind " + wrong, x.hears(0, 1), NOT);
            EDGES.is("hears(0, -1) ahead of " + wrong, x.hears(0, -1), 105);
            EDGES.is("hears(0, 1) with it at first", toldTo(wrong == 3 ? 0 : wrong, 1), y -> y.hears(0, 1), NOT);
        }
        EDGES.is("hears(0, 2), 1 came before 2", () -> toldTo(3, 1, 3, 2), x -> x.hears(0, 2), NOT);
        EDGES.is("hears(0, 2), the last that may be", () -> toldTo(3, 1, 2), x -> x.hears(0, 2), 100 + 5 + 16 + 21);
        WordChanged full = Camp.bytes(Camp.full(), 0, 6, 5, 4, 3, 2, 1, 6);
        EDGES.is("all six", full.hears(0, -1), full.hears(0, 1));
        EDGES.is("all six, the last", full.hears(0, 1), 100 + 120 + 21 + 21 + 76 + 26 + 21);
        EDGES.sentence(9, "ROWS of 0 .. 60 elements");
        EDGES.is("of 60, all 0", () -> Camp.bytes(told(), 0, new long[60]), x -> x.hears(0, -1), 100);
        long[] sixty = new long[60];
        System.arraycopy(new long[] {1, 2, 3}, 0, sixty, 0, 3);
        EDGES.is("of 60, three ahead", () -> Camp.bytes(told(), 0, sixty), x -> x.hears(0, -1), 157);
    }

    private static void minutesFromOneToAnother() {
        EDGES.sentence(9, "as many minutes as their X and Y are apart, together; one minute at each behind that");
        WordChanged x = new WordChanged();
        x.post(99, 0);
        x.post(0, 99);
        x.post(99, 0);
        x.post(99, 0);
        Camp.bytes(x, 0, 1, 2, 3);
        EDGES.is("from corner to corner", x.hears(0, 1), 198);
        EDGES.is("and back", x.hears(0, 2), 198 + 1 + 198);
        EDGES.is("at one place", x.hears(0, 3), 198 + 1 + 198 + 1);
        Camp.bytes(x, 0, 2);
        EDGES.is("where POST 0 is", x.hears(0, 2), 0);
    }

    private static void bestRouteOfWhat() {
        EDGES.sentence(10, "by the latest (rule 0), by all together (rule 1). BAD");
        for (int rule : new int[] {-1, 2, Integer.MIN_VALUE, Integer.MAX_VALUE}) {
            EDGES.refused("route(" + rule + ", -1)", Camp::rich, x -> x.route(rule, -1), BAD);
            EDGES.refused("route(" + rule + ", 0)", Camp::rich, x -> x.route(rule, 0), BAD);
        }
        EDGES.sentence(10, "that (k -1), the k-th POST. BAD");
        for (int k : new int[] {-2, -3, Integer.MIN_VALUE}) {
            EDGES.refused("route(0, " + k + ")", Camp::rich, x -> x.route(0, k), BAD);
            EDGES.refused("route(1, " + k + ")", Camp::rich, x -> x.route(1, k), BAD);
        }
        EDGES.sentence(10, "NOT: there are not as many");
        for (int rule = 0; rule < 2; rule++) {
            int r = rule;
            for (int k : new int[] {3, 4, 6, Integer.MAX_VALUE}) {
                EDGES.refused("route(" + rule + ", " + k + ")", Camp::rich, x -> x.route(r, k), NOT);
            }
            EDGES.refused("route(" + rule + ", 6) of seven", Camp::full, x -> x.route(r, 6), NOT);
            EDGES.refused("route(" + rule + ", 0) of none", WordChanged::new, x -> x.route(r, 0), NOT);
            EDGES.refused("route(" + rule + ", 0) of one", () -> onePost(), x -> x.route(r, 0), NOT);
            EDGES.is("route(" + rule + ", -1) of none", WordChanged::new, x -> x.route(r, -1), 0);
            EDGES.is("route(" + rule + ", -1) of one", () -> onePost(), x -> x.route(r, -1), 0);
        }
        EDGES.is("route(0, 2) of four", Camp::rich, x -> x.route(0, 2), 2);
        EDGES.is("route(0, 5) of seven", Camp::full, x -> x.route(0, 5), 6);
        EDGES.sentence(10, "of several the one named first: BAD, NOT");
        EDGES.refused("route(2, 3)", Camp::rich, x -> x.route(2, 3), BAD);
        EDGES.refused("route(-1, 6)", WordChanged::new, x -> x.route(-1, 6), BAD);
    }

    private static WordChanged onePost() {
        WordChanged x = new WordChanged();
        x.post(50, 50);
        return x;
    }

    private static void ofLikeRoutesTheFirstByNumbers() {
        EDGES.sentence(10, "the least (of like ones the first by numbers)");
        WordChanged x = new WordChanged();
        for (int i = 0; i < 7; i++) x.post(20, 20);
        for (int rule = 0; rule < 2; rule++) {
            for (int k = 0; k < 6; k++) EDGES.is("at one place, rule " + rule + ", k " + k, x.route(rule, k), k + 1);
        }
        EDGES.is("route(0, -1) at one place", x.route(0, -1), 5);
        EDGES.is("route(1, -1) at one place", x.route(1, -1), 15);
        // 1 and 2 lie as far from POST 0, each on its side: either may be first.
        WordChanged y = new WordChanged();
        y.post(50, 0);
        y.post(60, 0);
        y.post(40, 0);
        EDGES.is("route(0, 0) on two sides", y.route(0, 0), 1);
        EDGES.is("route(1, 0) on two sides", y.route(1, 0), 1);
        y.mend(1, 0, 61);
        EDGES.is("route(0, 0), 1 a minute farther", y.route(0, 0), 2);
        EDGES.is("route(1, 0), 1 a minute farther", y.route(1, 0), 2);
        EDGES.is("route(1, -1), 1 a minute farther", y.route(1, -1), 10 + 32);
        EDGES.is("that (the latest: behind AT)", () -> told(), z -> z.route(0, -1), 42);
        EDGES.sentence(10, "by the latest (rule 0), by all together (rule 1): the least");
        // Five lie close together on one side, one a little nearer on the other.
        WordChanged sides = new WordChanged();
        for (int at : new int[] {50, 40, 62, 63, 64, 65, 66}) sides.post(at, 0);
        EDGES.is("route(0, 0), the nearer side first", sides.route(0, 0), 1);
        EDGES.is("route(0, -1)", sides.route(0, -1), 10 + 1 + 22 + 8);
        EDGES.is("route(1, 0), the five first", sides.route(1, 0), 2);
        EDGES.is("route(1, -1)", sides.route(1, -1), 12 + 14 + 16 + 18 + 20 + 47);
        WordChanged last = new WordChanged();
        for (int at : new int[] {50, 66, 65, 64, 63, 62, 40}) last.post(at, 0);
        EDGES.is("route(0, 0), the nearer side has the last number", last.route(0, 0), 6);
        EDGES.is("route(0, -1) of that", last.route(0, -1), 10 + 1 + 22 + 8);
        EDGES.is("route(1, 0) of that", last.route(1, 0), 5);
        EDGES.is("route(1, -1) of that", last.route(1, -1), 12 + 14 + 16 + 18 + 20 + 47);
        WordChanged far = new WordChanged();
        far.post(0, 0);
        for (int i = 1; i < 7; i++) far.post(99, 99);
        EDGES.is("route(0, -1) of the farthest", far.route(0, -1), 198 + 5);
        EDGES.is("route(1, -1) of the farthest", far.route(1, -1), 6 * 198 + 15);
    }

    private static void letsInWhere() {
        pmRefused(11, "letsIn", pm -> (x, s) -> x.letsIn(s, pm));
        EDGES.sentence(11, "pm: 1000 times the POST, and the minute 0 .. 999");
        WordChanged at0 = told();
        at0.mend(0, 10, 0);
        EDGES.is("letsIn(0, 0), AT 0", at0.letsIn(0, 0), 3);
        EDGES.is("letsIn(0, 1000), AT 0", at0.letsIn(0, 1000), 1);
        EDGES.is("letsIn(0, 999), 1 is not in the ROUTE", toldTo(2), x -> x.letsIn(0, 999), 2);
        EDGES.is("letsIn(0, 1999), 1 is not in the ROUTE", toldTo(2), x -> x.letsIn(0, 1999), 1);
        EDGES.is("letsIn(0, 0)", told(), x -> x.letsIn(0, 0), 1);
        EDGES.is("letsIn(0, 999)", told(), x -> x.letsIn(0, 999), 2);
        EDGES.is("letsIn(0, 3000)", told(), x -> x.letsIn(0, 3000), 1);
        EDGES.is("letsIn(0, 3999)", told(), x -> x.letsIn(0, 3999), 2);
        EDGES.is("letsIn(0, 6999)", Camp.full(), x -> x.letsIn(0, 6999), 1);
    }

    private static void letsInWhen() {
        int[] heard = {100, 110, 131, 157};
        for (int post = 0; post < 4; post++) {
            int pm = post * 1000 + heard[post];
            EDGES.sentence(11, "OLD till it hears NEW; NEW from that minute on");
            EDGES.is("letsIn a minute ahead, POST " + post, told(), x -> x.letsIn(0, pm - 1), 1);
            EDGES.is("letsIn in that minute, POST " + post, told(), x -> x.letsIn(0, pm), 3);
            EDGES.sentence(11, "OLD in HOLDS minutes from that on (it counts)");
            EDGES.is("letsIn in the last of HOLDS, POST " + post, told(), x -> x.letsIn(0, pm + 59), 3);
            EDGES.is("letsIn a minute behind, POST " + post, told(), x -> x.letsIn(0, pm + 60), 2);
        }
        EDGES.sentence(11, "HOLDS (0 .. 999)");
        WordChanged x = told();
        x.mend(0, 11, 0);
        EDGES.is("HOLDS 0, a minute ahead", x.letsIn(0, 1109), 1);
        EDGES.is("HOLDS 0, in that minute", x.letsIn(0, 1110), 2);
        x.mend(0, 11, 1);
        EDGES.is("HOLDS 1, in that minute", x.letsIn(0, 1110), 3);
        EDGES.is("HOLDS 1, a minute behind", x.letsIn(0, 1111), 2);
        x.mend(0, 11, 999);
        x.mend(0, 10, 0);
        EDGES.is("HOLDS 999, AT 0, the last of them", x.letsIn(0, 998), 3);
        EDGES.is("HOLDS 999, AT 0, behind them", x.letsIn(0, 999), 2);
        EDGES.sentence(11, "a POST that is not in the ROUTE: OLD always");
        x = toldTo(1);
        x.mend(0, 11, 0);
        EDGES.is("letsIn(0, 2000)", x.letsIn(0, 2000), 1);
        EDGES.is("letsIn(0, 2999)", x.letsIn(0, 2999), 1);
        EDGES.sentence(11, "(bits 1, 2; alike: 3 as either is)");
        x.mend(0, 9, 0);
        for (int pm : new int[] {0, 99, 100, 999, 1109, 1110, 1999, 2000, 2999}) {
            EDGES.is("letsIn(0, " + pm + ")", x.letsIn(0, pm), 3);
        }
    }

    private static void patrolIs(WordChanged x, int patrol, int out, int home, int by) {
        x.mend(patrol, 5, out);
        x.mend(patrol, 6, home);
        x.mend(patrol, 7, by);
    }

    private static WordChanged withPatrol(int out, int home, int by) {
        WordChanged x = told();
        patrolIs(x, 3, out, home, by);
        return x;
    }

    private static WordChanged toldAt0() {
        WordChanged x = told();
        x.mend(0, 10, 0);
        return x;
    }

    private static void whichPatrol() {
        for (int patrol : new int[] {-2, 4, Integer.MIN_VALUE, Integer.MAX_VALUE}) {
            bad(12, "PATROLS 0 .. 3; SHOT (patrol -1)", "patrol(0, " + patrol + ")", (x, s) -> x.patrol(s, patrol));
        }
        EDGES.sentence(12, "a POST that is none: 0");
        for (int by = 4; by < 7; by++) {
            int b = by;
            EDGES.is("BY " + by + " of four", withPatrol(0, 0, b), x -> x.patrol(0, 3), 0);
            EDGES.is("SHOT with BY " + by + " of four", withPatrol(0, 0, b), x -> x.patrol(0, -1), 1);
        }
        EDGES.is("BY 3 of four", withPatrol(0, 0, 3), x -> x.patrol(0, 3), 1);
        EDGES.is("BY 0 of none", Camp.bytes(new WordChanged(), 0), x -> x.patrol(0, 0), 0);
        EDGES.sentence(12, "SHOT (patrol -1): how many are not");
        EDGES.is("none", told(), x -> x.patrol(0, -1), 0);
        EDGES.is("none, who know NEW", toldAt0(), x -> x.patrol(0, -1), 0);
        EDGES.is("one alone", withPatrol(100, 109, 1), x -> x.patrol(0, -1), 1);
        EDGES.is("all", Camp.bytes(new WordChanged(), 0), x -> x.patrol(0, -1), 4);
    }

    private static void whoIsLetIn() {
        EDGES.sentence(12, "knows NEW from minute AT on");
        EDGES.is("OUT 99, OLD still holds", withPatrol(99, 169, 1), x -> x.patrol(0, 3), 1);
        EDGES.is("OUT 99, OLD no more", withPatrol(99, 170, 1), x -> x.patrol(0, 3), 0);
        EDGES.is("OUT 100, NEW", withPatrol(100, 170, 1), x -> x.patrol(0, 3), 1);
        EDGES.sentence(12, "if BY lets in the WORD it knows in minute HOME");
        EDGES.is("NEW a minute ahead", withPatrol(100, 109, 1), x -> x.patrol(0, 3), 0);
        EDGES.is("NEW in that minute", withPatrol(100, 110, 1), x -> x.patrol(0, 3), 1);
        EDGES.is("HOME 999", withPatrol(100, 999, 1), x -> x.patrol(0, 3), 1);
        EDGES.is("HOME 0", withPatrol(99, 0, 1), x -> x.patrol(0, 3), 1);
        WordChanged x = Camp.bytes(withPatrol(99, 999, 2), 0, 1);
        EDGES.is("OLD at one not in the ROUTE", x.patrol(0, 3), 1);
        x.mend(3, 5, 999);
        EDGES.is("NEW at one not in the ROUTE", x.patrol(0, 3), 0);
        x.mend(0, 8, 1);
        EDGES.is("alike at one not in the ROUTE", x.patrol(0, 3), 1);
    }

    private static void holdsForHowLong() {
        EDGES.sentence(13, "the least HOLDS (0 .. 999) by which all PATROLS are");
        EDGES.is("OLD a minute ahead", withPatrol(0, 109, 1), x -> x.holdsFor(0), 0);
        EDGES.is("OLD in that minute", withPatrol(0, 110, 1), x -> x.holdsFor(0), 1);
        EDGES.is("OLD a minute behind", withPatrol(0, 111, 1), x -> x.holdsFor(0), 2);
        WordChanged x = withPatrol(0, 998, 0);
        x.mend(0, 10, 0);
        EDGES.is("all know NEW, AT 0", x.holdsFor(0), 0);
        x.mend(0, 10, 1);
        EDGES.is("OLD 997 minutes behind", x.holdsFor(0), 998);
        x.mend(3, 6, 999);
        EDGES.is("OLD 998 minutes behind", x.holdsFor(0), 999);
        x.mend(0, 11, 0);
        EDGES.is("by HOLDS 0 of now", x.holdsFor(0), 999);
        EDGES.is("HOLDS then", x.of(0, 11), 0);
        EDGES.sentence(13, "all PATROLS 0 .. 3");
        for (int patrol = 0; patrol < 4; patrol++) {
            WordChanged one = told();
            patrolIs(one, patrol, 0, 400, 3);
            EDGES.is("PATROL " + patrol, one.holdsFor(0), 244);
        }
        EDGES.sentence(13, "NOT");
        Supplier<WordChanged> early = () -> withPatrol(100, 109, 1);
        EDGES.refused("NEW a minute ahead", early, y -> y.holdsFor(0), NOT);
        EDGES.refused("BY a POST that is none", () -> withPatrol(0, 0, 4), y -> y.holdsFor(0), NOT);
        EDGES.refused("NEW at one not in the ROUTE", () -> Camp.bytes(withPatrol(999, 999, 2), 0, 1),
            y -> y.holdsFor(0), NOT);
        EDGES.is("NEW in that minute", withPatrol(100, 110, 1), y -> y.holdsFor(0), 0);
        EDGES.is("OLD at one not in the ROUTE", Camp.bytes(withPatrol(0, 999, 2), 0, 1), y -> y.holdsFor(0), 0);
    }

    private static void strangerWhere() {
        pmRefused(14, "stranger", pm -> (x, s) -> x.stranger(s, pm, 0));
        for (int at : new int[] {-1, 4, 6, 7, Integer.MIN_VALUE, Integer.MAX_VALUE}) {
            bad(14, "at a POST", "stranger(0, 1000, " + at + ")", (x, s) -> x.stranger(s, 1000, at));
        }
        EDGES.sentence(14, "at a POST 0 .. 6");
        EDGES.is("stranger(0, 1000, 0)", told(), x -> x.stranger(0, 1000, 0), 160);
        EDGES.is("stranger(0, 1000, 3)", told(), x -> x.stranger(0, 1000, 3), 217);
        EDGES.is("stranger(0, 1000, 0), AT 0", toldAt0(), x -> x.stranger(0, 1000, 0), 60);
        EDGES.is("stranger(0, 0, 0), AT 0", toldAt0(), x -> x.stranger(0, 0, 0), NOT);
        EDGES.is("stranger(0, 999, 0), 1 is not in the ROUTE", toldTo(2), x -> x.stranger(0, 999, 0), NOT);
        EDGES.refused("stranger(0, 1000, 6) of seven", Camp::full, x -> x.stranger(0, 1000, 6), NOT);
        EDGES.refused("stranger(0, 1000, 7) of seven", Camp::full, x -> x.stranger(0, 1000, 7), BAD);
    }

    private static void strangerTillWhen() {
        EDGES.sentence(14, "OLD, if it lets just that in, else NEW");
        EDGES.is("a minute ahead: OLD", told(), x -> x.stranger(0, 1109, 1), 170);
        EDGES.is("in that minute: NEW", told(), x -> x.stranger(0, 1110, 1), NOT);
        EDGES.is("while OLD holds: NEW", told(), x -> x.stranger(0, 1169, 1), NOT);
        EDGES.sentence(14, "the first minute from then on, it counts, in which it does not");
        WordChanged x = toldTo(1, 2);
        x.mend(0, 11, 10);
        EDGES.is("OLD, overheard in 119 at 2, at 1", x.stranger(0, 2119, 1), 120);
        EDGES.sentence(14, "-3: it does not then");
        EDGES.is("OLD, overheard in 120 at 2, at 1", x.stranger(0, 2120, 1), NOT_THEN);
        EDGES.is("OLD, overheard in 130 at 2, at 2", x.stranger(0, 2130, 2), 141);
        EDGES.is("NEW, overheard in 130 at 1, at 2", x.stranger(0, 1130, 2), NOT_THEN);
        EDGES.is("NEW, overheard in 131 at 1, at 2", x.stranger(0, 1131, 2), NOT);
        EDGES.is("NEW, overheard in 999 at 1, at one not in the ROUTE", x.stranger(0, 1999, 3), NOT_THEN);
        EDGES.refused("of rich(): NEW, overheard in 110 at 1, at 2", Camp::rich, y -> y.stranger(0, 1110, 2), NOT_THEN);
        EDGES.sentence(14, "NOT: it always will");
        EDGES.refused("of rich(): NEW, overheard in 110 at 1", Camp::rich, y -> y.stranger(0, 1110, 1), NOT);
        EDGES.is("OLD at one not in the ROUTE", x.stranger(0, 2130, 3), NOT);
        x.mend(0, 9, 0);
        EDGES.is("alike, ahead", x.stranger(0, 1000, 1), NOT);
        EDGES.is("alike, behind", x.stranger(0, 1999, 1), NOT);
        EDGES.is("alike, at one not in the ROUTE", x.stranger(0, 1000, 3), NOT);
    }

    private static void safeWhereAndWhen() {
        pmRefused(15, "safe", pm -> (x, s) -> x.safe(s, pm, 0));
        for (int m : new int[] {-1, 1000, Integer.MIN_VALUE, Integer.MAX_VALUE}) {
            bad(15, "no more in minute m: 0 .. 999", "safe(0, 1000, " + m + ")", (x, s) -> x.safe(s, 1000, m));
        }
        EDGES.sentence(15, "no more in minute m: 0 .. 999");
        EDGES.is("safe(0, 1050, 999)", told(), x -> x.safe(0, 1050, 999), 842);
        EDGES.is("safe(0, 1110, 0)", told(), x -> x.safe(0, 1110, 0), 999);
        EDGES.sentence(15, "the greatest HOLDS (0 .. 999)");
        EDGES.is("OLD, m 157", told(), x -> x.safe(0, 1050, 157), 0);
        EDGES.is("OLD, m 158", told(), x -> x.safe(0, 1050, 158), 1);
        EDGES.is("NEW, m 99", told(), x -> x.safe(0, 1110, 99), 999);
        WordChanged x = onePost();
        Camp.bytes(x, 0);
        x.mend(0, 10, 1);
        EDGES.is("OLD, AT 1, m 999", x.safe(0, 0, 999), 998);
        EDGES.sentence(15, "NOT");
        EDGES.refused("OLD, m 156", Camp::rich, y -> y.safe(0, 1050, 156), NOT);
        EDGES.refused("OLD, m 0", Camp::rich, y -> y.safe(0, 1050, 0), NOT);
        EDGES.refused("NEW, m 100", Camp::rich, y -> y.safe(0, 1110, 100), NOT);
        EDGES.refused("OLD, one not in the ROUTE", Camp::full, y -> y.safe(0, 1050, 999), NOT);
        EDGES.is("NEW, one not in the ROUTE, m 99", Camp.full(), y -> y.safe(0, 1110, 99), 999);
        x.mend(0, 9, 0);
        EDGES.is("alike, m 0", x.safe(0, 0, 0), NOT);
        EDGES.is("alike, m 999", x.safe(0, 0, 999), NOT);
        EDGES.sentence(15, "the WORD overheard by each HOLDS tried");
        for (int holds : new int[] {0, 60, 999}) {
            WordChanged y = told();
            y.mend(0, 11, holds);
            EDGES.is("OLD, HOLDS " + holds + " of now", y.safe(0, 1109, 300), 143);
            EDGES.is("NEW, HOLDS " + holds + " of now", y.safe(0, 1110, 300), NOT);
            EDGES.is("HOLDS then", y.of(0, 11), holds);
        }
    }

    private static void firstOfWhat() {
        for (int what : new int[] {-1, 2, Integer.MIN_VALUE, Integer.MAX_VALUE}) {
            bad(16, "the POST (what 0), how many (1)", "first(0, " + what + ")", (x, s) -> x.first(s, what));
        }
        EDGES.sentence(16, "NOT: nobody is in it");
        for (int what = 0; what < 2; what++) {
            int w = what;
            EDGES.refused("of no elements", () -> Camp.bytes(Camp.rich(), 0), x -> x.first(0, w), NOT);
            EDGES.refused("of one that is none", () -> Camp.bytes(Camp.rich(), 0, 4, 1), x -> x.first(0, w), NOT);
            EDGES.refused("of a 0", () -> Camp.bytes(Camp.rich(), 0, 0, 1), x -> x.first(0, w), NOT);
        }
        EDGES.is("of one, the POST", toldTo(2), x -> x.first(0, 0), 2);
        EDGES.is("of one, how many", toldTo(2), x -> x.first(0, 1), 4);
        EDGES.sentence(16, "of like ones the one that is earliest in the ROUTE");
        EDGES.is("of 3, 1, 2", toldTo(3, 1, 2), x -> x.first(0, 0), 3);
        EDGES.is("of 1, 2, 3", told(), x -> x.first(0, 0), 1);
        EDGES.sentence(16, "that most PATROLS are LET IN: that; how many");
        // 2 is heard in 131, and in 130 if it is first.
        EDGES.is("one who needs it first", withPatrol(100, 130, 2), x -> x.first(0, 0), 2);
        EDGES.is("all four then", withPatrol(100, 130, 2), x -> x.first(0, 1), 4);
        EDGES.is("one whom nothing helps", withPatrol(100, 129, 2), x -> x.first(0, 0), 1);
        EDGES.is("three then", withPatrol(100, 129, 2), x -> x.first(0, 1), 3);
        EDGES.is("all who know NEW", toldAt0(), x -> x.first(0, 1), 4);
        EDGES.sentence(16, "all others as in a ROUTE behind it");
        // With 3 first it is heard in 105, 1 in 121 and 2 in 142.
        for (int home : new int[] {141, 142}) {
            WordChanged x = told();
            patrolIs(x, 0, 100, 105, 3);
            patrolIs(x, 1, 100, 121, 1);
            patrolIs(x, 2, 100, home, 2);
            EDGES.is("3, 1, 2 and one in " + home, x.first(0, 1), home == 142 ? 4 : 3);
            EDGES.is("3, 1, 2 and one in " + home + ", the POST", x.first(0, 0), home == 142 ? 3 : 1);
        }
        EDGES.sentence(16, "that most PATROLS are LET IN: that; how many");
        EDGES.is("none", Camp.bytes(shotAll(), 0, 1), x -> x.first(0, 1), 0);
        EDGES.is("none, the POST", Camp.bytes(shotAll(), 0, 3, 1), x -> x.first(0, 0), 3);
    }

    private static WordChanged shotAll() {
        WordChanged x = told();
        for (int p = 0; p < 4; p++) patrolIs(x, p, 0, 0, 6);
        return x;
    }

    private static void nothingIsMisheard() {
        WordChanged x = withPatrol(100, 157, 3);
        EDGES.is("law() of 12", Camp.law(x, "12"), 1);
        EDGES.sentence(9, "IN THOUGHT (no mishearing)");
        EDGES.is("hears(0, 3)", x.hears(0, 3), 157);
        EDGES.sentence(11, "IN THOUGHT (no mishearing)");
        EDGES.is("letsIn(0, 3157)", x.letsIn(0, 3157), 3);
        EDGES.sentence(12, "IN THOUGHT (no mishearing)");
        EDGES.is("patrol(0, 3)", x.patrol(0, 3), 1);
        EDGES.is("patrol(0, -1)", x.patrol(0, -1), 0);
        EDGES.sentence(13, "IN THOUGHT (no mishearing)");
        EDGES.is("holdsFor(0)", x.holdsFor(0), 0);
        EDGES.sentence(14, "IN THOUGHT (no mishearing)");
        EDGES.is("stranger(0, 1157, 3)", x.stranger(0, 1157, 3), NOT);
        EDGES.sentence(15, "IN THOUGHT (no mishearing)");
        EDGES.is("safe(0, 3157, 99)", x.safe(0, 3157, 99), 999);
        EDGES.sentence(16, "IN THOUGHT (no mishearing)");
        EDGES.is("first(0, 1)", x.first(0, 1), 4);
    }

    private static void askedInThought() {
        EDGES.sentence(11, "in thought");
        EDGES.refused("letsIn(0, 1120)", Camp::rich, x -> x.letsIn(0, 1120), 3);
        EDGES.refused("hears(0, -2)", Camp::rich, x -> x.hears(0, -2), 98);
        EDGES.refused("route(0, -1)", Camp::rich, x -> x.route(0, -1), 42);
        EDGES.refused("patrol(0, -1)", Camp::rich, x -> x.patrol(0, -1), 0);
        EDGES.refused("holdsFor(0)", Camp::rich, x -> x.holdsFor(0), 0);
        EDGES.refused("stranger(0, 1050, 1)", Camp::rich, x -> x.stranger(0, 1050, 1), 170);
        EDGES.refused("safe(0, 1050, 200)", Camp::rich, x -> x.safe(0, 1050, 200), 43);
        EDGES.refused("first(0, 1)", Camp::rich, x -> x.first(0, 1), 4);
    }

    public static void main(String[] args) {
        shelvesRefused();
        hearsOfWhichPost();
        hearsNot();
        aRouteEnds();
        minutesFromOneToAnother();
        bestRouteOfWhat();
        ofLikeRoutesTheFirstByNumbers();
        letsInWhere();
        letsInWhen();
        whichPatrol();
        whoIsLetIn();
        holdsForHowLong();
        strangerWhere();
        strangerTillWhen();
        safeWhereAndWhen();
        firstOfWhat();
        nothingIsMisheard();
        askedInThought();
        EDGES.end();
    }
}
