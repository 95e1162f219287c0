import java.util.function.Supplier;

/** Promises 36 to 38 and what of 45 belongs to them, each edge that the document names: body, act, trace. */
public final class ActsEdgesTest {
    private static final Edges EDGES = new Edges("edges of acts");
    private static final int BAD = Edges.BAD, FULL = Edges.FULL;
    private static final int LEAST = Integer.MIN_VALUE, MOST = Integer.MAX_VALUE;

    private static WordChanged fifty() {
        WordChanged x = Camp.rich();
        for (int i = x.count(3); i < 50; i++) x.body(i % 8);
        return x;
    }

    /** One of each KIND; its number is its KIND. */
    private static WordChanged eight() {
        WordChanged x = new WordChanged();
        for (int kind = 0; kind < 8; kind++) x.body(kind);
        return x;
    }

    private static void aKindIs0To7() {
        EDGES.sentence(36, "A BODY of a KIND (0 .. 7) is kept: its number. BAD");
        for (int kind : new int[] {-1, 8, LEAST, MOST}) {
            EDGES.refused("body(" + kind + ")", Camp::rich, x -> x.body(kind), BAD);
        }
        EDGES.is("body(0)", WordChanged::new, x -> x.body(0), 0);
        EDGES.is("body(7)", Camp::rich, x -> x.body(7), 2);
    }

    private static void fiftyBodiesAreFull() {
        EDGES.sentence(36, "BODIES 0 .. 49; FULL");
        WordChanged x = new WordChanged();
        for (int i = 0; i < 50; i++) EDGES.is("body " + i, x.body(i % 8), i);
        EDGES.is("count(3)", x.count(3), 50);
        EDGES.refused("a body behind 49", ActsEdgesTest::fifty, y -> y.body(0), FULL);
        EDGES.sentence(36, "of several the one named first: BAD, FULL");
        EDGES.refused("body(8) behind 49", ActsEdgesTest::fifty, y -> y.body(8), BAD);
        EDGES.refused("body(-1) behind 49", ActsEdgesTest::fifty, y -> y.body(-1), BAD);
        EDGES.sentence(37, "BODIES 0 .. 49; n its number");
        EDGES.is("act(49, 2, 0)", new WordChanged(), y -> {
            for (int i = 0; i < 50; i++) y.body(0);
            return y.act(49, 2, 0);
        }, 49);
    }

    private static void noSuchBodyOrAct() {
        EDGES.sentence(37, "0, and no TRACE then: no such BODY, ACT");
        int[][] wrong = {{-1, 0}, {8, 0}, {50, 0}, {LEAST, 0}, {MOST, 0}, {0, -1}, {0, 4}, {0, LEAST}, {0, MOST},
            {8, 4}};
        for (int[] w : wrong) {
            String name = "act(" + w[0] + ", " + w[1] + ", 5)";
            WordChanged x = eight();
            x.act(7, 3, 5);
            EDGES.is(name, x.act(w[0], w[1], 5), 0);
            EDGES.is("trace(0) behind " + name, x.trace(0), BAD);
            EDGES.is("count(4) behind " + name, x.count(4), 0);
            EDGES.is("count(3) behind " + name, x.count(3), 8);
        }
        EDGES.is("act(50, 0, 5) of fifty", ActsEdgesTest::fifty, x -> x.act(50, 0, 5), 0);
        EDGES.is("act(0, 0, 5) of none", WordChanged::new, x -> x.act(0, 0, 5), 0);
        EDGES.sentence(37, "ACTS: 0 says .. 3 tells");
        EDGES.is("act(0, 0, 5)", ActsEdgesTest::eight, x -> x.act(0, 0, 5), 5);
        EDGES.is("act(7, 3, 5)", ActsEdgesTest::eight, x -> x.act(7, 3, 5), 45);
    }

    private static void act(int body, int act, int x, int due) {
        EDGES.is("act(" + body + ", " + act + ", " + x + ")", ActsEdgesTest::eight, o -> o.act(body, act, x), due);
    }

    private static void intsWrap() {
        EDGES.sentence(37, "ACTS with x (an int that wraps)");
        act(0, 0, MOST, MOST);
        act(1, 0, MOST, LEAST + 3);
        act(0, 1, MOST, -2);
        act(0, 1, LEAST, 0);
        act(0, 1, 1 << 30, LEAST);
        act(0, 2, LEAST, LEAST);
        act(0, 3, LEAST, -1);
        act(2, 1, 1 << 30, MOST - 3);
        act(2, 1, 0, -4);
        act(3, 1, MOST, -(2 * (LEAST + 3)));
        act(3, 2, MOST, 3 * (MOST ^ 3));
        act(4, 3, LEAST, (2 * (LEAST + 4 + 3) - (1 ^ 4)) ^ 5);
        act(5, 2, LEAST, 3 * (LEAST ^ 5) - (2 + 5));
        act(6, 0, MOST, 2 * (MOST + 6));
        act(7, 0, LEAST, 2 * (LEAST + 7) - 1);
        act(7, 1, MOST, 2 * (2 * (MOST + 7) - 1) + (2 ^ 7));
    }

    private static void traceOfTheLatestAct() {
        EDGES.sentence(38, "THE TRACE's i-th body. BAD");
        Supplier<WordChanged> ten = () -> {
            WordChanged x = eight();
            x.act(5, 3, 5);
            return x;
        };
        int[] numbers = {61, 2, 41, 30, 10, 1, 60, 40, 11, 1};
        for (int i = 0; i < 10; i++) {
            int at = i;
            EDGES.is("trace(" + i + ")", ten, x -> x.trace(at), numbers[i]);
        }
        for (int i : new int[] {-1, 10, 23, 24, 25, LEAST, MOST}) {
            EDGES.refused("trace(" + i + ")", ten, x -> x.trace(i), BAD);
        }
        EDGES.refused("trace(0) of a new one", WordChanged::new, x -> x.trace(0), BAD);
        EDGES.sentence(38, "the bodies that ran in the latest act()");
        EDGES.is("trace(0) behind a shorter one", ten, x -> 1000 * x.act(0, 0, 0) + x.trace(0), 1);
        EDGES.refused("trace(1) behind a shorter one", () -> {
            WordChanged x = ten.get();
            x.act(0, 0, 0);
            return x;
        }, x -> x.trace(1), BAD);
        EDGES.sentence(38, "the first 24 are kept");
        // No ACT runs more than ten, so that all are.
        for (int body = 0; body < 8; body++) {
            for (int act = 0; act < 4; act++) {
                WordChanged x = eight();
                x.act(body, act, 5);
                int ran = x.count(4);
                String name = "of act(" + body + ", " + act + ", 5)";
                EDGES.is("the last body " + name + " is kept", ran > 0 && x.trace(ran - 1) > 0 ? 1 : 0, 1);
                EDGES.is("behind the last body " + name, x.trace(ran), BAD);
            }
        }
        EDGES.sentence(45, "4 bodies that ran in the latest act() (all)");
        EDGES.is("count(4)", ten, x -> x.count(4), 10);
        EDGES.is("count(4) of a new one", WordChanged::new, x -> x.count(4), 0);
        EDGES.is("count(4) behind a shorter one", ten, x -> 1000 * x.act(0, 0, 0) + x.count(4), 1);
    }

    public static void main(String[] args) {
        aKindIs0To7();
        fiftyBodiesAreFull();
        noSuchBodyOrAct();
        intsWrap();
        traceOfTheLatestAct();
        EDGES.end();
    }
}
