import java.util.function.Supplier;

/** Promises 39 to 45, each edge that the document names: keep, row, put, element, shift, taken, count. */
public final class ShelvesEdgesTest {
    private static final Edges EDGES = new Edges("edges of shelves");
    private static final int BAD = Edges.BAD, NOTHING_THERE = Edges.NOTHING_THERE, OTHER_KIND = Edges.OTHER_KIND;
    private static final int NO_SUCH_PLACE = Edges.NO_SUCH_PLACE, SIZE_BELOW_0 = Edges.SIZE_BELOW_0;
    private static final long NO_LONG = Edges.NO_LONG;
    private static final int[] NO_SHELVES = {-1, 6, 7, Integer.MIN_VALUE, Integer.MAX_VALUE};
    private static final int LEAST = Integer.MIN_VALUE, MOST = Integer.MAX_VALUE;

    private static void atFirstAShelfHoldsNothing() {
        EDGES.sentence(1, "SHELVES 0 .. 5 each hold nothing (at first)");
        for (int shelf = 0; shelf < 6; shelf++) {
            int s = shelf;
            EDGES.refused("taken(" + shelf + ", 0)", WordChanged::new, x -> x.taken(s, 0), NOTHING_THERE);
            EDGES.refused("put(" + shelf + ", 0, 1)", WordChanged::new, x -> x.put(s, 0, 1), NOTHING_THERE);
        }
    }

    private static void keepWhatWhere() {
        EDGES.sentence(39, "A SHELF holds nothing (body -1), or a BODY: 1. BAD");
        for (int shelf : NO_SHELVES) {
            EDGES.refused("keep(" + shelf + ", 0)", Camp::rich, x -> x.keep(shelf, 0), BAD);
            EDGES.refused("keep(" + shelf + ", -1)", Camp::rich, x -> x.keep(shelf, -1), BAD);
        }
        for (int body : new int[] {-2, 2, 50, LEAST, MOST}) {
            for (int shelf = 0; shelf < 6; shelf++) {
                int s = shelf;
                EDGES.refused("keep(" + shelf + ", " + body + ")", Camp::rich, x -> x.keep(s, body), BAD);
            }
        }
        EDGES.refused("keep(0, 0) with no BODIES", WordChanged::new, x -> x.keep(0, 0), BAD);
        for (int shelf = 0; shelf < 6; shelf++) {
            WordChanged x = Camp.rich();
            EDGES.is("keep(" + shelf + ", 0)", x.keep(shelf, 0), 1);
            EDGES.is("taken then", x.taken(shelf, 0), 5);
            EDGES.is("keep(" + shelf + ", 1)", x.keep(shelf, 1), 1);
            EDGES.is("taken then", x.taken(shelf, 0), 7);
            EDGES.is("keep(" + shelf + ", -1)", x.keep(shelf, -1), 1);
            EDGES.is("taken then", x.taken(shelf, 0), NOTHING_THERE);
            EDGES.is("keep(" + shelf + ", -1) again", x.keep(shelf, -1), 1);
        }
        WordChanged x = new WordChanged();
        for (int i = 0; i < 50; i++) x.body(i == 49 ? 7 : 0);
        EDGES.is("keep(0, 49)", x.keep(0, 49), 1);
        EDGES.is("taken then", x.taken(0, 7), 7);
        EDGES.is("keep(0, 50)", x.keep(0, 50), BAD);
    }

    private static void rowOfWhat() {
        EDGES.sentence(40, "A SHELF holds a ROW: 1. BAD (sort, n above 60)");
        for (int shelf : NO_SHELVES) {
            EDGES.refused("row(" + shelf + ", 0, 1)", Camp::rich, x -> x.row(shelf, 0, 1), BAD);
        }
        for (int sort : new int[] {-1, 5, LEAST, MOST}) {
            EDGES.refused("row(0, " + sort + ", 3)", Camp::rich, x -> x.row(0, sort, 3), BAD);
        }
        for (int n : new int[] {61, MOST}) {
            EDGES.refused("row(0, 0, " + n + ")", Camp::rich, x -> x.row(0, 0, n), BAD);
        }
        for (int shelf = 0; shelf < 6; shelf++) {
            for (int sort = 0; sort < 5; sort++) {
                WordChanged x = Camp.rich();
                EDGES.is("row(" + shelf + ", " + sort + ", 60)", x.row(shelf, sort, 60), 1);
                EDGES.is("its last element", x.element(shelf, 59), 0);
                EDGES.is("behind its last element", x.element(shelf, 60), NO_LONG);
                EDGES.is("row(" + shelf + ", " + sort + ", 0)", x.row(shelf, sort, 0), 1);
                EDGES.is("of no elements, the first", x.put(shelf, 0, 1), NO_SUCH_PLACE);
            }
        }
        EDGES.sentence(40, "-14 a size below 0");
        for (int n : new int[] {-1, -60, LEAST}) {
            for (int sort = 0; sort < 5; sort++) {
                int s = sort;
                EDGES.refused("row(0, " + sort + ", " + n + ")", Camp::rich, x -> x.row(0, s, n), SIZE_BELOW_0);
            }
        }
        EDGES.sentence(40, "of several the one named first: BAD, -14");
        EDGES.refused("row(6, 0, -1)", Camp::rich, x -> x.row(6, 0, -1), BAD);
        EDGES.refused("row(0, 5, -1)", Camp::rich, x -> x.row(0, 5, -1), BAD);
        EDGES.refused("row(0, -1, -1)", Camp::rich, x -> x.row(0, -1, -1), BAD);
    }

    private static void elementsAre0AtFirst() {
        EDGES.sentence(40, "of 0 .. 60 elements, 0 at first (false)");
        for (int sort = 0; sort < 5; sort++) {
            WordChanged x = new WordChanged();
            for (int time = 0; time < 2; time++) {
                x.row(5, sort, 60);
                for (int i = 0; i < 60; i++) {
                    EDGES.is("element " + i + " of sort " + sort, x.element(5, i), 0);
                    x.put(5, i, -1);
                }
            }
        }
    }

    private static void placesOfARow() {
        EDGES.sentence(41, "Element i of a ROW; -13 a place that is not there");
        for (int i : new int[] {-1, 3, 59, 60, LEAST, MOST}) {
            EDGES.refused("put(0, " + i + ", 1)", Camp::rich, x -> x.put(0, i, 1), NO_SUCH_PLACE);
            EDGES.refused("element(0, " + i + ")", Camp::rich, x -> x.element(0, i), NO_LONG);
        }
        EDGES.refused("put(0, 60, 1) of 60", () -> Camp.bytes(new WordChanged(), 0, new long[60]),
            x -> x.put(0, 60, 1), NO_SUCH_PLACE);
        EDGES.refused("put(5, 60, 1) of 60", () -> Camp.bytes(new WordChanged(), 5, new long[60]),
            x -> x.put(5, 60, 1), NO_SUCH_PLACE);
        for (int shelf = 0; shelf < 6; shelf++) {
            WordChanged x = Camp.bytes(Camp.rich(), shelf, new long[60]);
            EDGES.is("put(" + shelf + ", 0, 5)", x.put(shelf, 0, 5), 1);
            EDGES.is("put(" + shelf + ", 59, 6)", x.put(shelf, 59, 6), 1);
            EDGES.is("element(" + shelf + ", 0)", x.element(shelf, 0), 5);
            EDGES.is("element(" + shelf + ", 59)", x.element(shelf, 59), 6);
        }
    }

    private static void putAndElementRefused() {
        for (int shelf : NO_SHELVES) {
            EDGES.sentence(41, "BAD");
            EDGES.refused("put(" + shelf + ", 0, 1)", Camp::rich, x -> x.put(shelf, 0, 1), BAD);
            EDGES.sentence(42, "Long.MIN_VALUE: BAD");
            EDGES.refused("element(" + shelf + ", 0)", Camp::rich, x -> x.element(shelf, 0), NO_LONG);
        }
        EDGES.sentence(41, "BAD, -11, -12, -13: of several the one named first");
        for (int i : new int[] {-1, 0, 1, 60}) {
            EDGES.refused("put(4, " + i + ", 1) of nothing", Camp::rich, x -> x.put(4, i, 1), NOTHING_THERE);
            EDGES.refused("put(3, " + i + ", 1) of a BODY", Camp::rich, x -> x.put(3, i, 1), OTHER_KIND);
            EDGES.refused("put(6, " + i + ", 1) of no SHELF", Camp::rich, x -> x.put(6, i, 1), BAD);
            EDGES.refused("element(4, " + i + ") of nothing", Camp::rich, x -> x.element(4, i), NO_LONG);
            EDGES.refused("element(3, " + i + ") of a BODY", Camp::rich, x -> x.element(3, i), NO_LONG);
        }
    }

    private static void lowestBitsAreKept() {
        EDGES.sentence(41, "what is put in keeps its lowest bits (a boolean: whether it is not 0; 1 or 0)");
        long[] given = {0, 1, -1, 2, 127, 128, 255, 256, -128, -129, 32767, 32768, 65535, 65536, -32768, -32769,
            MOST, MOST + 1L, 1L << 32, LEAST, LEAST - 1L, Long.MAX_VALUE, Long.MIN_VALUE + 1, 1L << 62};
        for (int sort = 0; sort < 5; sort++) {
            WordChanged x = Camp.row(new WordChanged(), 2, sort, 1, 1, 1);
            for (long v : given) {
                long[] dues = {(byte) v, (short) v, (int) v, v, v != 0 ? 1 : 0};
                EDGES.is("put(2, 1, " + v + ") of sort " + sort, x.put(2, 1, v), 1);
                EDGES.is("element then, of sort " + sort, x.element(2, 1), dues[sort]);
                EDGES.is("the one ahead", x.element(2, 0), 1);
                EDGES.is("the one behind", x.element(2, 2), 1);
            }
        }
        WordChanged x = Camp.row(new WordChanged(), 0, 3, Long.MIN_VALUE);
        EDGES.is("the least long itself", x.element(0, 0), Long.MIN_VALUE);
    }

    private static void shiftRefused() {
        EDGES.sentence(43, "BAD, -11 (either), -12 (no ROWS, or of unlike sorts)");
        for (int shelf : NO_SHELVES) {
            EDGES.refused("from SHELF " + shelf, Camp::rich, x -> x.shift(shelf, 0, 0, 0, 1), BAD);
            EDGES.refused("to SHELF " + shelf, Camp::rich, x -> x.shift(0, 0, shelf, 0, 1), BAD);
        }
        EDGES.refused("from nothing", Camp::rich, x -> x.shift(4, 0, 0, 0, 1), NOTHING_THERE);
        EDGES.refused("to nothing", Camp::rich, x -> x.shift(0, 0, 4, 0, 1), NOTHING_THERE);
        EDGES.refused("from nothing to nothing", Camp::rich, x -> x.shift(4, 0, 4, 0, 0), NOTHING_THERE);
        EDGES.refused("from a BODY", Camp::rich, x -> x.shift(3, 0, 0, 0, 1), OTHER_KIND);
        EDGES.refused("to a BODY", Camp::rich, x -> x.shift(0, 0, 3, 0, 1), OTHER_KIND);
        EDGES.refused("from a BODY to itself", Camp::rich, x -> x.shift(3, 0, 3, 0, 0), OTHER_KIND);
        for (int sort = 0; sort < 5; sort++) {
            for (int other = 0; other < 5; other++) {
                int s = sort;
                int o = other;
                Supplier<WordChanged> two = () -> Camp.row(Camp.row(Camp.rich(), 0, s, 1, 1), 5, o, 0, 0);
                EDGES.is("from sort " + sort + " to sort " + other, two, x -> x.shift(0, 0, 5, 0, 2),
                    sort == other ? 2 : OTHER_KIND);
            }
        }
        EDGES.refused("from bytes to shorts", Camp::rich, x -> x.shift(0, 0, 1, 0, 1), OTHER_KIND);
        EDGES.sentence(43, "of several the one named first: BAD, -11, -12, -13");
        EDGES.refused("no SHELF, and nothing", Camp::rich, x -> x.shift(6, 0, 4, 0, 1), BAD);
        EDGES.refused("nothing, and no SHELF", Camp::rich, x -> x.shift(4, 0, 6, 0, 1), BAD);
        EDGES.refused("a BODY, and nothing", Camp::rich, x -> x.shift(3, 0, 4, 0, 1), NOTHING_THERE);
        EDGES.refused("nothing, and a BODY", Camp::rich, x -> x.shift(4, 0, 3, 0, 1), NOTHING_THERE);
        EDGES.refused("nothing, and n -1", Camp::rich, x -> x.shift(0, 0, 4, 0, -1), NOTHING_THERE);
        EDGES.refused("unlike sorts, and n -1", Camp::rich, x -> x.shift(0, 0, 1, 0, -1), OTHER_KIND);
        EDGES.refused("a BODY, and n -1", Camp::rich, x -> x.shift(3, 0, 3, 0, -1), OTHER_KIND);
        EDGES.refused("no SHELF, and n -1", Camp::rich, x -> x.shift(0, 0, 6, 0, -1), BAD);
    }

    private static void shiftOutOfPlace() {
        EDGES.sentence(43, "-13 (n below 0, too)");
        int[][] wrong = {{0, 0, -1}, {0, 0, LEAST}, {-1, 0, 1}, {0, -1, 1}, {-1, 0, 0}, {0, -1, 0}, {-1, -1, 2},
            {0, 0, 4}, {1, 0, 3}, {3, 0, 1}, {4, 0, 0}, {0, 4, 3}, {0, 6, 1}, {0, 7, 0}, {MOST, 0, 1}, {0, MOST, 1},
            {MOST, 0, MOST}, {0, MOST, MOST}, {1, 1, MOST}, {LEAST, 0, 1}, {0, LEAST, 1}, {LEAST, LEAST, LEAST}};
        for (int[] w : wrong) {
            String name = "shift(0, " + w[0] + ", 5, " + w[1] + ", " + w[2] + ") of 3 to 6";
            EDGES.refused(name, Camp::rich, x -> x.shift(0, w[0], 5, w[1], w[2]), NO_SUCH_PLACE);
        }
        EDGES.refused("shift(0, 0, 0, 1, 3) of 3", Camp::rich, x -> x.shift(0, 0, 0, 1, 3), NO_SUCH_PLACE);
        EDGES.sentence(43, "n elements of a ROW from i on come to another one from j on: n");
        int[][] right = {{0, 0, 3}, {0, 3, 3}, {2, 5, 1}, {3, 0, 0}, {3, 6, 0}, {0, 6, 0}};
        for (int[] r : right) {
            String name = "shift(0, " + r[0] + ", 5, " + r[1] + ", " + r[2] + ") of 3 to 6";
            WordChanged x = Camp.rich();
            EDGES.is(name, x.shift(0, r[0], 5, r[1], r[2]), r[2]);
            for (int i = 0; i < 6; i++) {
                boolean came = i >= r[1] && i < r[1] + r[2];
                EDGES.is(name + ", element " + i, x.element(5, i), came ? 1 + r[0] + i - r[1] : 7 + i);
            }
            for (int i = 0; i < 3; i++) EDGES.is(name + ", whence " + i, x.element(0, i), 1 + i);
        }
    }

    private static void shiftWithinOneRow() {
        EDGES.sentence(43, "(or the same), as they all were before");
        int[][] moves = {{0, 1, 5}, {1, 0, 5}, {0, 5, 1}, {5, 0, 1}, {0, 0, 6}, {0, 2, 4}, {2, 0, 4}, {6, 6, 0}};
        for (int[] m : moves) {
            WordChanged x = Camp.bytes(new WordChanged(), 5, 7, 8, 9, 10, 11, 12);
            String name = "shift(5, " + m[0] + ", 5, " + m[1] + ", " + m[2] + ") of 6";
            EDGES.is(name, x.shift(5, m[0], 5, m[1], m[2]), m[2]);
            for (int i = 0; i < 6; i++) {
                boolean came = i >= m[1] && i < m[1] + m[2];
                EDGES.is(name + ", element " + i, x.element(5, i), 7 + (came ? i - m[1] + m[0] : i));
            }
        }
        WordChanged x = Camp.bytes(new WordChanged(), 0, new long[60]);
        x.put(0, 0, 9);
        EDGES.is("59 of 60", x.shift(0, 0, 0, 1, 59), 59);
        EDGES.is("60 of 60", x.shift(0, 0, 0, 0, 60), 60);
        EDGES.is("the second then", x.element(0, 1), 9);
        EDGES.is("60 of 60, a place on", x.shift(0, 0, 0, 1, 60), NO_SUCH_PLACE);
    }

    private static void takenForWhat() {
        EDGES.sentence(44, "a BODY of KIND k (0 .. 7); BAD");
        for (int shelf : NO_SHELVES) EDGES.refused("taken(" + shelf + ", 0)", Camp::rich, x -> x.taken(shelf, 0), BAD);
        for (int kind : new int[] {-1, 8, LEAST, MOST}) {
            EDGES.refused("taken(3, " + kind + ")", Camp::rich, x -> x.taken(3, kind), BAD);
            EDGES.refused("taken(4, " + kind + "), ahead of -11", Camp::rich, x -> x.taken(4, kind), BAD);
            EDGES.refused("taken(0, " + kind + "), ahead of -12", Camp::rich, x -> x.taken(0, kind), BAD);
        }
        for (int kind = 0; kind < 8; kind++) {
            int k = kind;
            EDGES.sentence(44, "-11 nothing is there; -12 it is of another kind");
            EDGES.refused("taken(4, " + kind + ") of nothing", Camp::rich, x -> x.taken(4, k), NOTHING_THERE);
            EDGES.refused("taken(0, " + kind + ") of a ROW", Camp::rich, x -> x.taken(0, k), OTHER_KIND);
        }
        EDGES.sentence(44, "taken for a BODY of KIND k, or under it: its KIND; -12");
        int[] above = {-1, 0, 0, 2, 1, 3, 0, 6};
        for (int own = 0; own < 8; own++) {
            for (int kind = 0; kind < 8; kind++) {
                boolean under = false;
                for (int up = own; up >= 0; up = above[up]) under |= up == kind;
                WordChanged x = new WordChanged();
                x.keep(0, x.body(own));
                EDGES.is("KIND " + own + " for " + kind, x.taken(0, kind), under ? own : OTHER_KIND);
            }
        }
        EDGES.refused("MARMALADE for LADDER", Camp::rich, x -> x.taken(3, 1), OTHER_KIND);
    }

    private static void countOfWhat() {
        EDGES.sentence(45, "How many: 0 POSTS .. 4 bodies that ran. BAD");
        for (int what : new int[] {-1, 5, LEAST, MOST}) {
            EDGES.refused("count(" + what + ")", Camp::rich, x -> x.count(what), BAD);
        }
        int[] rich = {4, 1, 6, 2, 10};
        for (int what = 0; what < 5; what++) {
            int w = what;
            EDGES.is("count(" + what + ")", Camp::rich, x -> x.count(w), rich[what]);
            EDGES.is("count(" + what + ") of a new one", WordChanged::new, x -> x.count(w), 0);
        }
    }

    public static void main(String[] args) {
        atFirstAShelfHoldsNothing();
        keepWhatWhere();
        rowOfWhat();
        elementsAre0AtFirst();
        placesOfARow();
        putAndElementRefused();
        lowestBitsAreKept();
        shiftRefused();
        shiftOutOfPlace();
        shiftWithinOneRow();
        takenForWhat();
        countOfWhat();
        EDGES.end();
    }
}
