import java.util.function.Supplier;
import java.util.function.ToLongFunction;

/** Edges that a sentence of the document names: what is still taken, and what is refused and then changes nothing. */
final class Edges {
    static final int BAD = -1, NOT = -2, FULL = -3, STATE = -5;
    static final int NOTHING_THERE = -11, OTHER_KIND = -12, NO_SUCH_PLACE = -13, SIZE_BELOW_0 = -14;
    static final long NO_LONG = Long.MIN_VALUE;

    /** A call that asks of a SHELF. */
    interface Asked {
        long of(WordChanged x, int shelf);
    }

    private final Due due;
    private String sentence = "";

    Edges(String name) {
        due = new Due(name);
    }

    /** The calls that follow are looked at for these words of the document, some of them told shorter than there. */
    void sentence(int promise, String words) {
        sentence = "promise " + promise + ", \"" + words + "\": ";
    }

    void is(String call, long got, long want) {
        due.is(sentence + call, got, want);
    }

    void is(String call, WordChanged x, ToLongFunction<WordChanged> made, long want) {
        is(call, made.applyAsLong(x), want);
    }

    /** On a new object that the camp makes. */
    void is(String call, Supplier<WordChanged> camp, ToLongFunction<WordChanged> made, long want) {
        is(call, camp.get(), made, want);
    }

    void refused(String call, Supplier<WordChanged> camp, ToLongFunction<WordChanged> made, long want) {
        is(call, camp, made, want);
        boolean same = Look.at(camp, made).equals(Look.at(camp, x -> 0));
        due.isTrue(sentence + call + " changes nothing, which", same);
    }

    /** A call that wants a ROUTE, asked of each SHELF on which there is none. */
    void wantsRoute(int promise, String call, Asked asked, long bad, long nothingThere, long otherKind) {
        sentence(promise, "a ROUTE on a SHELF 0 .. 5; BAD");
        for (int shelf : new int[] {-1, 6, Integer.MIN_VALUE, Integer.MAX_VALUE}) {
            refused(call + " of SHELF " + shelf, Camp::rich, x -> asked.of(x, shelf), bad);
        }
        sentence(promise, "-11 nothing is there where something is wanted");
        refused(call + " of nothing", Camp::rich, x -> asked.of(x, 4), nothingThere);
        sentence(promise, "-12 (no ROW of bytes)");
        refused(call + " of a BODY", Camp::rich, x -> asked.of(x, 3), otherKind);
        for (int sort = 1; sort < 5; sort++) {
            int s = sort;
            Supplier<WordChanged> camp = () -> Camp.row(Camp.rich(), 5, s, 1, 2, 3);
            refused(call + " of a ROW of sort " + sort, camp, x -> asked.of(x, 5), otherKind);
        }
        sentence(promise, "a ROUTE: a ROW of bytes on a SHELF 0 .. 5");
        for (int shelf = 0; shelf < 6; shelf++) {
            long answer = asked.of(Camp.bytes(Camp.rich(), shelf, 1, 2, 3), shelf);
            is(call + " of SHELF " + shelf, answer, asked.of(Camp.rich(), 0));
        }
    }

    void end() {
        due.end();
    }
}
