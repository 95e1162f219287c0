import java.util.function.Supplier;
import java.util.function.ToLongFunction;

/** Edges that a sentence of the document names: what is still taken, and what is refused and then changes nothing. */
final class Edges {
    static final int BAD = -1, NOT = -2, FULL = -3, STATE = -5;
    static final int NOTHING_THERE = -11, OTHER_KIND = -12, NO_SUCH_PLACE = -13, SIZE_BELOW_0 = -14;
    static final long NO_LONG = Long.MIN_VALUE;

    private final Due due;
    private String sentence = "";

    Edges(String name) {
        due = new Due(name);
    }

    /** The calls that follow are looked at for this sentence of the document. */
    void sentence(int promise, String words) {
        sentence = "promise " + promise + ", \"" + words + "\": ";
    }

    void is(String call, long got, long want) {
        due.is(sentence + call, got, want);
    }

    void is(String call, WordChanged x, ToLongFunction<WordChanged> made, long want) {
        is(call, made.applyAsLong(x), want);
    }

    /** On a new object that the camp makes. */
    void is(String call, Supplier<WordChanged> camp, ToLongFunction<WordChanged> made, long want) {
        is(call, camp.get(), made, want);
    }

    void refused(String call, Supplier<WordChanged> camp, ToLongFunction<WordChanged> made, long want) {
        is(call, camp, made, want);
        boolean same = Look.at(camp, made).equals(Look.at(camp, x -> 0));
        due.isTrue(sentence + call + " changes nothing, which", same);
    }

    void end() {
        due.end();
    }
}
