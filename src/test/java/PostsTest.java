/** Promises 1 to 5: a new object, post, posts, mend, of. */
public final class PostsTest {
    private static final Due DUE = new Due("posts");

    private static void promise1NewObject() {
        WordChanged x = new WordChanged();
        for (int what = 0; what < 5; what++) DUE.is("1 count(" + what + ")", x.count(what), 0);
        for (int w = 0; w < 10; w++) {
            DUE.is("1 LONG of " + w, x.of(w, 3), 3);
            DUE.is("1 LIKE of " + w, x.of(w, 4), (w + 1) % 10);
        }
        for (int p = 0; p < 4; p++) {
            for (int what = 5; what < 8; what++) DUE.is("1 of(" + p + ", " + what + ")", x.of(p, what), 0);
        }
        DUE.is("1 OLD", x.of(0, 8), 0);
        DUE.is("1 NEW", x.of(0, 9), 1);
        DUE.is("1 AT", x.of(0, 10), 0);
        DUE.is("1 HOLDS", x.of(0, 11), 60);
        DUE.is("1 NOW", x.of(0, 13), 0);
        for (int what = 0; what < 5; what++) DUE.is("1 led(" + what + ")", x.led(what), 0);
        for (int s = 0; s < 6; s++) DUE.is("1 shelf " + s, x.taken(s, 0), -11);
        DUE.is("1 no image", x.back(), -5);
        DUE.is("1 no trace", x.trace(0), -1);
    }

    private static void promise2Post() {
        WordChanged x = new WordChanged();
        DUE.is("2 x above", x.post(100, 0), -1);
        DUE.is("2 x below", x.post(-1, 0), -1);
        DUE.is("2 y above", x.post(0, 100), -1);
        DUE.is("2 y below", x.post(0, -1), -1);
        for (int i = 0; i < 7; i++) DUE.is("2 post " + i, x.post(99 - i, i), i);
        DUE.is("2 FULL", x.post(1, 1), -3);
        DUE.is("2 BAD ahead of FULL", x.post(1, 100), -1);
        DUE.is("2 X", x.of(6, 0), 93);
        DUE.is("2 Y", x.of(6, 1), 6);
        DUE.is("2 COLD", x.of(6, 2), 0);
        DUE.is("2 no change", x.count(2), 0);
    }

    private static void promise3Posts() {
        WordChanged x = new WordChanged();
        Camp.bytes(x, 0, 1, 2, 3, 99, 99, 12, 4, 5, 6, 7);
        DUE.is("3 n 0", x.posts(0, 0, 0), -1);
        DUE.is("3 n 8", x.posts(0, 0, 8), -1);
        DUE.is("3 no shelf", x.posts(6, 0, 1), -1);
        DUE.is("3 no shelf below", x.posts(-1, 0, 1), -1);
        DUE.is("3 missing", x.posts(1, 0, 1), 0);
        DUE.is("3 place below 0", x.posts(0, -1, 1), 0);
        DUE.is("3 place far below 0", x.posts(0, Integer.MIN_VALUE, 7), 0);
        DUE.is("3 place far above", x.posts(0, Integer.MAX_VALUE, 7), 0);
        DUE.is("3 place at the end", x.posts(0, 10, 1), 0);
        DUE.is("3 within a three", x.posts(0, 8, 1), 0);
        DUE.is("3 three of them, then it ends", x.posts(0, 0, 7), 3);
        DUE.is("3 X", x.of(1, 0), 99);
        DUE.is("3 Y", x.of(2, 1), 5);
        DUE.is("3 COLD", x.of(1, 2), 12);
        DUE.is("3 just so many", x.posts(0, 0, 2), 2);
        WordChanged just = new WordChanged();
        Camp.bytes(just, 0, 1, 2, 3, 4, 5, 6);
        DUE.is("3 to the very end", just.posts(0, 0, 2), 2);
        DUE.is("3 the last three", just.posts(0, 3, 1), 1);
        DUE.is("3 COLD of the last", just.of(2, 2), 6);
        Camp.bytes(x, 0, 1, 1, 1, 1, 1, 13);
        DUE.is("3 COLD too much", x.posts(0, 0, 2), 1);
        Camp.bytes(x, 0, 200, 1, 1);
        DUE.is("3 X below 0 as a byte", x.posts(0, 0, 1), 0);
        Camp.bytes(x, 0, 1, 100, 1);
        DUE.is("3 Y too much", x.posts(0, 0, 1), 0);
        Camp.bytes(x, 0, 1, 1, 1, 1, 1, 1);
        DUE.is("3 FULL on the way", x.posts(0, 0, 2), 1);
        DUE.is("3 FULL", x.posts(0, 0, 1), 0);
        DUE.is("3 count", x.count(0), 7);
        Camp.shorts(x, 0, 1, 1, 1);
        DUE.is("3 shorts", x.posts(0, 0, 1), -12);
        DUE.is("3 shorts, place below 0", x.posts(0, -1, 1), -12);
        x.keep(0, x.body(0));
        DUE.is("3 a body", x.posts(0, 0, 1), -12);
        DUE.is("3 BAD ahead of -12", x.posts(0, 0, 9), -1);
    }

    private static void promise4Mend() {
        int[] least = {0, 0, 0, 1, 0, 0, 0, 0, 0, 0, 0, 0};
        int[] most = {99, 99, 12, 9, 9, 999, 999, 6, 9, 9, 999, 999};
        int[] amount = {4, 4, 4, 10, 10, 4, 4, 4, 1, 1, 1, 1};
        for (int what = 0; what < 12; what++) {
            WordChanged x = Camp.four();
            for (int number = 0; number < amount[what]; number++) {
                String name = "4 mend(" + number + ", " + what + ", ..)";
                int was = x.of(number, what);
                DUE.is(name + " below", x.mend(number, what, least[what] - 1), -1);
                DUE.is(name + " above", x.mend(number, what, most[what] + 1), -1);
                DUE.is(name + " unchanged", x.of(number, what), was);
                DUE.is(name + " most", x.mend(number, what, most[what]), was);
                DUE.is(name + " least", x.mend(number, what, least[what]), most[what]);
                DUE.is(name + " is", x.of(number, what), least[what]);
            }
            DUE.is("4 number above, what " + what, x.mend(amount[what], what, 1), -1);
            DUE.is("4 number below, what " + what, x.mend(-1, what, 1), -1);
        }
        WordChanged x = new WordChanged();
        DUE.is("4 no post", x.mend(0, 0, 1), -1);
        DUE.is("4 what below", x.mend(0, -1, 1), -1);
        DUE.is("4 what above", x.mend(0, 12, 1), -1);
        DUE.is("4 NOW is not told", x.mend(0, 13, 1), -1);
        DUE.is("4 BY a post that is none yet", x.mend(3, 7, 6), 0);
    }

    private static void numbersKeepApart() {
        WordChanged x = Camp.four();
        for (int i = 4; i < 7; i++) x.post(i, i);
        int[] amount = {7, 7, 7, 10, 10, 4, 4, 4, 1, 1, 1, 1};
        for (int what = 0; what < 12; what++) {
            for (int i = 0; i < amount[what]; i++) x.mend(i, what, 1 + (what * 3 + i) % 6);
        }
        for (int what = 0; what < 12; what++) {
            for (int i = 0; i < amount[what]; i++) {
                DUE.is("4 of(" + i + ", " + what + ")", x.of(i, what), 1 + (what * 3 + i) % 6);
            }
        }
    }

    private static void promise5Of() {
        WordChanged x = Camp.four();
        DUE.is("5 no such what", x.of(0, 14), -1);
        DUE.is("5 what below", x.of(0, -1), -1);
        DUE.is("5 no post", x.of(4, 0), -1);
        DUE.is("5 no post has", x.of(4, 12), -1);
        DUE.is("5 post below", x.of(-1, 12), -1);
        DUE.is("5 no word", x.of(10, 3), -1);
        DUE.is("5 no patrol", x.of(4, 5), -1);
        DUE.is("5 OLD of 1", x.of(1, 8), -1);
        DUE.is("5 NOW of 1", x.of(1, 13), -1);
        x.change(7);
        x.stay(12);
        DUE.is("5 has", x.of(0, 12), 7);
        DUE.is("5 another has", x.of(3, 12), 0);
        DUE.is("5 NOW", x.of(0, 13), 12);
        DUE.is("5 far number", x.of(Integer.MAX_VALUE, 3), -1);
    }

    public static void main(String[] args) {
        promise1NewObject();
        promise2Post();
        promise3Posts();
        promise4Mend();
        numbersKeepApart();
        promise5Of();
        DUE.end();
    }
}
