import java.util.ArrayList;
import java.util.List;
import java.util.function.Consumer;
import java.util.function.Supplier;
import java.util.function.ToLongFunction;

/**
 * All that later calls could tell of an object. Some of them can be asked once only (law() empties THE TAPE, back()
 * lays the image back): so each part is asked of an object of its own, which came to be by the same calls. None of
 * them is asked more than the 512 calls that the document promises.
 */
final class Look {
    private final List<Long> seen = new ArrayList<>();

    private Look() {
    }

    static List<Long> at(Supplier<WordChanged> camp, ToLongFunction<WordChanged> call) {
        Look look = new Look();
        List<Consumer<WordChanged>> parts = List.of(look::numbers, look::bodiesAndLaw, x -> look.elements(x, 0),
            x -> look.elements(x, 2), x -> look.elements(x, 4), look::shelves, look::lastShelf, look::tape, look::deed,
            look::image, look::undone, look::doneAgain);
        for (Consumer<WordChanged> part : parts) {
            WordChanged x = camp.get();
            call.applyAsLong(x);
            part.accept(x);
        }
        return look.seen;
    }

    private void see(long answer) {
        seen.add(answer);
    }

    private void numbers(WordChanged x) {
        int[] amount = {7, 7, 7, 10, 10, 4, 4, 4, 1, 1, 1, 1, 7, 1};
        for (int what = 0; what < amount.length; what++) {
            for (int number = 0; number < amount[what]; number++) see(x.of(number, what));
        }
        for (int what = 0; what < 5; what++) {
            see(x.count(what));
            see(x.led(what));
        }
    }

    private void bodiesAndLaw(WordChanged x) {
        for (int i = 0; i < 24; i++) see(x.trace(i));
        mishearings(x);
        // What a BODY is, is seen by what it says and by which body it does so.
        int bodies = x.count(3);
        for (int body = 0; body < bodies; body++) {
            see(x.act(body, 3, 7));
            see(x.trace(0));
            see(x.trace(2));
        }
        see(x.body(0));
    }

    private void mishearings(WordChanged x) {
        for (int post = 0; post < x.count(0); post++) {
            for (int ahead = 0; ahead < 7; ahead++) see(x.mishears(10 * post + ahead));
        }
    }

    private void elements(WordChanged x, int from) {
        for (int shelf = from; shelf < from + 2; shelf++) {
            for (int i = 0; i < 60; i++) see(x.element(shelf, i));
        }
    }

    private void shelves(WordChanged x) {
        for (int shelf = 0; shelf < 6; shelf++) {
            for (int kind = 0; kind < 8; kind++) see(x.taken(shelf, kind));
        }
        // Of which sort a ROW is, is seen by which one its elements may come to.
        for (int sort = 0; sort < 5; sort++) {
            for (int shelf = 0; shelf < 5; shelf++) {
                x.row(5, sort, 0);
                see(x.shift(shelf, 0, 5, 0, 0));
            }
        }
    }

    private void lastShelf(WordChanged x) {
        for (int sort = 0; sort < 5; sort++) {
            x.row(0, sort, 0);
            see(x.shift(5, 0, 0, 0, 0));
        }
    }

    private void tape(WordChanged x) {
        see(x.law());
        mishearings(x);
    }

    private void deed(WordChanged x) {
        for (int step = 0; step < 9; step++) {
            for (int post = 0; post < x.count(0); post++) {
                for (int word : new int[] {0, 4, 6}) see(x.ask(post, word));
            }
            see(x.stay(step % 2 == 0 ? 10 : 11));
        }
    }

    private void image(WordChanged x) {
        see(x.back());
        for (int post = 0; post < 7; post++) see(x.of(post, 12));
        for (int what = 0; what < 5; what++) see(x.led(what));
        deed(x);
    }

    private void undone(WordChanged x) {
        for (int i = 0; i < 41; i++) see(x.undo());
        numbers(x);
    }

    private void doneAgain(WordChanged x) {
        for (int i = 0; i < 41; i++) see(x.redo());
        numbers(x);
    }
}
