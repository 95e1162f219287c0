import java.util.function.Supplier;

/** Promises 27 to 35, each edge that the document names: change, tell, stay, ask, led, image, back, undo, redo. */
public final class DeedEdgesTest {
    private static final Edges EDGES = new Edges("edges in deed");
    private static final int BAD = Edges.BAD, STATE = Edges.STATE;
    private static final int[] WILD = {Integer.MIN_VALUE, Integer.MAX_VALUE};

    private static void changeToAWord() {
        EDGES.sentence(27, "CHANGE to a WORD 0 .. 9: what POST 0 had. BAD");
        for (int word : new int[] {-1, 10, WILD[0], WILD[1]}) {
            EDGES.refused("change(" + word + ")", Camp::rich, x -> x.change(word), BAD);
        }
        WordChanged x = Camp.four();
        EDGES.is("change(9)", x.change(9), 0);
        EDGES.is("change(0)", x.change(0), 9);
        EDGES.is("what POST 0 has", x.of(0, 12), 0);
        EDGES.sentence(27, "POST 0 alone");
        x.change(5);
        for (int post = 1; post < 4; post++) EDGES.is("what POST " + post + " has", x.of(post, 12), 0);
        EDGES.sentence(27, "STATE: no POSTS");
        EDGES.refused("change(0)", WordChanged::new, y -> y.change(0), STATE);
        EDGES.refused("change(9)", WordChanged::new, y -> y.change(9), STATE);
        x = new WordChanged();
        x.post(0, 0);
        EDGES.is("change(9) with one POST", x.change(9), 0);
        EDGES.sentence(27, "of several the one named first: BAD, STATE");
        EDGES.refused("change(10) with no POSTS", WordChanged::new, y -> y.change(10), BAD);
        EDGES.refused("change(-1) with no POSTS", WordChanged::new, y -> y.change(-1), BAD);
    }

    private static void tellAPost() {
        EDGES.sentence(28, "BAD (also POST 0)");
        EDGES.refused("tell(0)", Camp::rich, x -> x.tell(0), BAD);
        EDGES.refused("tell(0) with no POSTS", WordChanged::new, x -> x.tell(0), BAD);
        for (int post : new int[] {-1, 4, 7, WILD[0], WILD[1]}) {
            EDGES.refused("tell(" + post + ")", Camp::rich, x -> x.tell(post), BAD);
        }
        EDGES.refused("tell(7) of seven", Camp::full, x -> x.tell(7), BAD);
        EDGES.refused("tell(1) of one", () -> {
            WordChanged x = new WordChanged();
            x.post(0, 0);
            return x;
        }, x -> x.tell(1), BAD);
        EDGES.is("tell(1)", Camp::rich, x -> x.tell(1), 4);
        EDGES.is("tell(3)", Camp::rich, x -> x.tell(3), 0);
        EDGES.is("tell(6) of seven", Camp::full, x -> x.tell(6), 0);
        EDGES.sentence(28, "what POST 0 has (heard right)");
        EDGES.is("what POST 3 has then", Camp::rich, x -> 100 * x.tell(3) + x.of(3, 12), 6);
        EDGES.is("what POST 3 has, that mishears by seven of twelve", Camp::rich,
            x -> x.law() + 100 * x.tell(3) + 10 * x.mishears(30) + x.of(3, 12), 1 + 70 + 6);
    }

    private static void waitSomeMinutes() {
        EDGES.sentence(29, "WAIT n minutes (1 .. 999): NOW. BAD");
        for (int n : new int[] {0, -1, 1000, WILD[0], WILD[1]}) {
            EDGES.refused("stay(" + n + ")", Camp::rich, x -> x.stay(n), BAD);
        }
        EDGES.is("stay(1)", Camp::rich, x -> x.stay(1), 51);
        EDGES.is("stay(999)", Camp::rich, x -> x.stay(999), 1049);
        EDGES.is("stay(1) with no POSTS", WordChanged::new, x -> x.stay(1), 1);
        EDGES.sentence(29, "STATE: it would be more than 9999");
        EDGES.refused("stay(10) in 9990", () -> waited(9990), x -> x.stay(10), STATE);
        EDGES.refused("stay(999) in 9990", () -> waited(9990), x -> x.stay(999), STATE);
        EDGES.refused("stay(1) in 9999", () -> waited(9999), x -> x.stay(1), STATE);
        EDGES.refused("stay(999) in 9001", () -> waited(9001), x -> x.stay(999), STATE);
        EDGES.is("stay(9) in 9990", () -> waited(9990), x -> x.stay(9), 9999);
        EDGES.is("stay(999) in 9000", () -> waited(9000), x -> x.stay(999), 9999);
        EDGES.sentence(29, "of several the one named first: BAD, STATE");
        EDGES.refused("stay(1000) in 9999", () -> waited(9999), x -> x.stay(1000), BAD);
        EDGES.refused("stay(0) in 9999", () -> waited(9999), x -> x.stay(0), BAD);
    }

    private static WordChanged waited(int minute) {
        WordChanged x = Camp.rich();
        for (int left = minute - x.of(0, 13); left > 0; left -= 999) x.stay(Math.min(999, left));
        return x;
    }

    private static void askWhereAndFor() {
        EDGES.sentence(30, "ASK at a POST for a WORD. BAD");
        for (int post : new int[] {-1, 4, 7, WILD[0], WILD[1]}) {
            EDGES.refused("ask(" + post + ", 0)", Camp::rich, x -> x.ask(post, 0), BAD);
        }
        for (int word : new int[] {-1, 10, WILD[0], WILD[1]}) {
            EDGES.refused("ask(0, " + word + ")", Camp::rich, x -> x.ask(0, word), BAD);
        }
        EDGES.refused("ask(0, 0) with no POSTS", WordChanged::new, x -> x.ask(0, 0), BAD);
        EDGES.refused("ask(7, 0) of seven", Camp::full, x -> x.ask(7, 0), BAD);
        EDGES.is("ask(6, 0) of seven", Camp::full, x -> x.ask(6, 0), 1);
        EDGES.is("ask(3, 0)", Camp::rich, x -> x.ask(3, 0), 1);
        EDGES.is("ask(3, 9)", Camp::rich, x -> x.ask(3, 9), 0);
        WordChanged x = Camp.four();
        x.change(9);
        EDGES.is("ask(0, 9)", x.ask(0, 9), 1);
    }

    /** POST 1 is told 4 in minute 10; POST 0 has it from minute 0 on. */
    private static WordChanged toldInTen(int holds, int wait) {
        WordChanged x = Camp.four();
        x.mend(0, 11, holds);
        x.change(4);
        x.stay(10);
        x.tell(1);
        if (wait > 0) x.stay(wait);
        return x;
    }

    private static void whatItHadWithinHolds() {
        EDGES.sentence(30, "what it had ahead of that, within HOLDS of when it was told");
        EDGES.is("in that minute", toldInTen(60, 0), x -> x.ask(1, 0), 1);
        EDGES.is("in the last of HOLDS", toldInTen(60, 59), x -> x.ask(1, 0), 1);
        EDGES.is("a minute behind", toldInTen(60, 60), x -> x.ask(1, 0), 0);
        EDGES.is("HOLDS 0", toldInTen(0, 0), x -> x.ask(1, 0), 0);
        EDGES.is("HOLDS 1", toldInTen(1, 0), x -> x.ask(1, 0), 1);
        EDGES.is("HOLDS 1, a minute behind", toldInTen(1, 1), x -> x.ask(1, 0), 0);
        EDGES.is("HOLDS 999, in the last of them", toldInTen(999, 998), x -> x.ask(1, 0), 1);
        EDGES.is("HOLDS 999, a minute behind", toldInTen(999, 999), x -> x.ask(1, 0), 0);
        EDGES.sentence(30, "what it has");
        EDGES.is("HOLDS 0", toldInTen(0, 0), x -> x.ask(1, 4), 1);
        EDGES.is("behind HOLDS", toldInTen(60, 999), x -> x.ask(1, 4), 1);
        EDGES.is("one that was not told", toldInTen(60, 0), x -> x.ask(2, 4), 0);
        EDGES.sentence(30, "CHANGE: it counts from NOW");
        EDGES.is("POST 0 in the last of HOLDS", toldInTen(60, 49), x -> x.ask(0, 0), 1);
        EDGES.is("POST 0 a minute behind", toldInTen(60, 50), x -> x.ask(0, 0), 0);
        EDGES.sentence(30, "what it had ahead of that: no WORD ahead of that one");
        WordChanged x = toldInTen(60, 0);
        x.change(5);
        EDGES.is("POST 0 has 5, had 4, ahead of that 0", 100 * x.ask(0, 5) + 10 * x.ask(0, 4) + x.ask(0, 0), 110);
        x.tell(1);
        x.tell(1);
        EDGES.is("POST 1 was told 5 twice", 10 * x.ask(1, 5) + x.ask(1, 4), 10);
    }

    private static void whatIsLed() {
        EDGES.sentence(31, "changes (what 0), tellings (1), asked (2), let in (3), NOW (4). BAD");
        for (int what : new int[] {-1, 5, WILD[0], WILD[1]}) {
            EDGES.refused("led(" + what + ")", Camp::rich, x -> x.led(what), BAD);
        }
        int[] dues = {2, 2, 2, 1, 50};
        for (int what = 0; what < 5; what++) {
            int w = what;
            EDGES.is("led(" + what + ")", Camp::rich, x -> x.led(w), dues[what]);
            EDGES.is("led(" + what + ") of a new one", WordChanged::new, x -> x.led(w), 0);
        }
        EDGES.sentence(31, "what is answered BAD or STATE is not led");
        WordChanged x = Camp.rich();
        long refused = x.change(10) + x.tell(0) + x.tell(4) + x.ask(4, 0) + x.ask(0, 10) + x.stay(0) + x.stay(1000);
        EDGES.is("seven of them", refused, -7);
        for (int what = 0; what < 5; what++) EDGES.is("led(" + what + ") then", x.led(what), dues[what]);
    }

    private static void imageAndBack() {
        EDGES.sentence(33, "STATE: there is none");
        EDGES.refused("back() of a new one", WordChanged::new, x -> x.back(), STATE);
        EDGES.refused("back() with POSTS", Camp::four, x -> x.back(), STATE);
        EDGES.sentence(32, "AN IMAGE is kept: NOW");
        EDGES.is("image() of a new one", WordChanged::new, x -> x.image(), 0);
        EDGES.is("back() to it", WordChanged::new, x -> x.image() + x.stay(999) + x.back(), 999);
        EDGES.is("image() in 9999", () -> waited(9999), x -> x.image(), 9999);
        EDGES.sentence(32, "AN IMAGE keeps NOW, what POSTS have and had, since when, what LED tells");
        WordChanged x = Camp.rich();
        EDGES.is("back()", x.back(), 10);
        EDGES.is("NOW", x.of(0, 13), 10);
        int[] led = {1, 1, 1, 1, 10};
        for (int what = 0; what < 5; what++) EDGES.is("led(" + what + ")", x.led(what), led[what]);
        int[] has = {4, 4, 0, 0};
        for (int post = 0; post < 4; post++) EDGES.is("what POST " + post + " has", x.of(post, 12), has[post]);
        EDGES.is("what POST 0 had", x.ask(0, 0), 1);
        EDGES.is("what POST 1 had", x.ask(1, 0), 1);
        EDGES.is("POST 2 had nothing but 0", x.ask(2, 4) + x.ask(2, 6), 0);
        x.stay(49);
        EDGES.is("POST 0 in the last of HOLDS", x.ask(0, 0), 1);
        x.stay(1);
        EDGES.is("POST 0 a minute behind", x.ask(0, 0), 0);
        x.stay(9);
        EDGES.is("POST 1 in the last of HOLDS", x.ask(1, 0), 1);
        x.stay(1);
        EDGES.is("POST 1 a minute behind", x.ask(1, 0), 0);
        EDGES.sentence(33, "It is laid back: NOW; it is kept then, too");
        EDGES.is("back() once more", x.back(), 10);
    }

    private static int wordsLetIn(WordChanged x, int post) {
        int bits = 0;
        for (int word = 0; word < 10; word++) bits |= x.ask(post, word) << word;
        return bits;
    }

    private static void allPostsHaveOld() {
        EDGES.sentence(27, "IN DEED: it is NOW minute 0, all POSTS have OLD");
        WordChanged x = new WordChanged();
        x.mend(0, 8, 7);
        x.post(1, 1);
        Camp.bytes(x, 0, 2, 2, 2);
        x.posts(0, 0, 1);
        for (int post = 0; post < 2; post++) {
            EDGES.is("what POST " + post + " has", x.of(post, 12), 7);
            EDGES.is("what POST " + post + " lets in", wordsLetIn(x, post), 1 << 7);
        }
        EDGES.is("change(3)", x.change(3), 7);
    }

    private static void imageOfSevenPosts() {
        EDGES.sentence(32, "AN IMAGE keeps what POSTS have and had, since when: POSTS 0 .. 6");
        WordChanged x = new WordChanged();
        x.mend(0, 8, 3);
        for (int i = 0; i < 7; i++) x.post(i, i);
        for (int post = 1; post < 7; post++) {
            x.change(post + 3);
            x.stay(post);
            x.tell(post);
        }
        x.image();
        x.stay(200);
        x.change(0);
        for (int post = 1; post < 7; post++) x.tell(post);
        EDGES.is("back()", x.back(), 21);
        for (int post = 1; post < 7; post++) {
            EDGES.is("what POST " + post + " has", x.of(post, 12), post + 3);
            EDGES.is("what POST " + post + " lets in", wordsLetIn(x, post), 1 << post + 3 | 1 << 3);
        }
        // POST 6 was told in 21, POST 5 in 15: 60 minutes from then on what they had still counts.
        x.stay(54);
        EDGES.is("what POST 5 lets in, behind HOLDS", wordsLetIn(x, 5), 1 << 8);
        EDGES.is("what POST 6 lets in, ahead of it", wordsLetIn(x, 6), 1 << 9 | 1 << 3);
        x.stay(6);
        EDGES.is("what POST 6 lets in, behind HOLDS", wordsLetIn(x, 6), 1 << 9);
    }

    private static void postsThatCameSince() {
        EDGES.sentence(33, "POSTS that came since have OLD, had nothing");
        WordChanged x = Camp.four();
        x.mend(0, 8, 3);
        x.image();
        x.post(1, 1);
        x.post(2, 2);
        x.post(3, 3);
        x.change(5);
        for (int post = 4; post < 7; post++) {
            x.tell(post);
            EDGES.is("what POST " + post + " has ahead of it", x.of(post, 12), 5);
        }
        EDGES.is("back()", x.back(), 0);
        for (int post = 4; post < 7; post++) {
            EDGES.is("what POST " + post + " has", x.of(post, 12), 3);
            EDGES.is("what POST " + post + " lets in", wordsLetIn(x, post), 1 << 3);
        }
        for (int post = 0; post < 4; post++) EDGES.is("what POST " + post + " has", x.of(post, 12), 0);
        EDGES.is("how many POSTS there are", x.count(0), 7);
        EDGES.sentence(33, "AN IMAGE keeps no number of mend()");
        x.mend(0, 11, 7);
        EDGES.is("HOLDS behind back()", 1000 * x.back() + x.of(0, 11), 7);
        EDGES.is("changes that may be UNDONE behind it", x.count(2), 2);
    }

    private static WordChanged mended(int times) {
        WordChanged x = new WordChanged();
        for (int i = 1; i <= times; i++) x.mend(0, 10, i);
        return x;
    }

    private static void undone() {
        EDGES.sentence(34, "UNDONE: how many may still be. STATE: none");
        EDGES.refused("undo() of a new one", WordChanged::new, x -> x.undo(), STATE);
        EDGES.refused("undo() behind the last", () -> undoneAll(mended(3)), x -> x.undo(), STATE);
        WordChanged x = mended(3);
        for (int left = 2; left >= 0; left--) {
            EDGES.is("undo(), " + left + " left", x.undo(), left);
            EDGES.is("AT then", x.of(0, 10), left);
        }
        EDGES.sentence(34, "40 at most are kept");
        EDGES.is("39 changes", mended(39).count(2), 39);
        EDGES.is("40 changes", mended(40).count(2), 40);
        EDGES.is("41 changes", mended(41).count(2), 40);
        EDGES.is("40 changes, AT when all are UNDONE", undoneAll(mended(40)).of(0, 10), 0);
        EDGES.is("41 changes, AT when all are UNDONE", undoneAll(mended(41)).of(0, 10), 1);
        EDGES.is("100 changes, AT when all are UNDONE", undoneAll(mended(100)).of(0, 10), 60);
        EDGES.refused("undo() behind 40 of 41", () -> undoneAll(mended(41)), y -> y.undo(), STATE);
        EDGES.sentence(34, "CHANGES (all numbers of mend())");
        int[] values = {50, 50, 5, 5, 5, 5, 5, 5, 5, 5, 5, 5};
        for (int what = 0; what < 12; what++) {
            WordChanged y = Camp.four();
            int was = y.of(0, what);
            y.mend(0, what, values[what]);
            EDGES.is("number " + what + ", undo()", y.undo(), 0);
            EDGES.is("number " + what + " then", y.of(0, what), was);
            EDGES.is("number " + what + ", redo()", y.redo(), 0);
            EDGES.is("number " + what + " then", y.of(0, what), values[what]);
        }
    }

    private static WordChanged undoneAll(WordChanged x) {
        int left = x.count(2);
        for (int i = 0; i < left; i++) x.undo();
        return x;
    }

    private static void theSameNumberIsNone() {
        EDGES.sentence(34, "telling the same number is none");
        WordChanged x = mended(2);
        EDGES.is("mend(0, 10, 2)", x.mend(0, 10, 2), 2);
        EDGES.is("count(2)", x.count(2), 2);
        x.undo();
        EDGES.is("mend(0, 10, 1)", x.mend(0, 10, 1), 1);
        EDGES.sentence(35, "as long as no other came behind: telling the same number is none");
        EDGES.is("redo()", x.redo(), 0);
        EDGES.is("AT", x.of(0, 10), 2);
        EDGES.sentence(34, "deeds are none");
        Supplier<WordChanged> deeds = () -> {
            WordChanged y = Camp.four();
            y.change(4);
            y.tell(1);
            y.stay(5);
            y.ask(1, 4);
            y.image();
            y.back();
            return y;
        };
        EDGES.refused("undo() behind deeds", deeds, y -> y.undo(), STATE);
        EDGES.is("count(2) behind deeds", deeds, y -> y.count(2), 0);
    }

    private static void doneAgain() {
        EDGES.sentence(35, "DONE AGAIN: how many may still be. STATE: none");
        EDGES.refused("redo() of a new one", WordChanged::new, x -> x.redo(), STATE);
        EDGES.refused("redo() when none was UNDONE", () -> mended(3), x -> x.redo(), STATE);
        EDGES.refused("redo() behind the last", () -> doneAgainAll(undoneAll(mended(3))), x -> x.redo(), STATE);
        WordChanged x = undoneAll(mended(3));
        for (int left = 2; left >= 0; left--) {
            EDGES.is("redo(), " + left + " left", x.redo(), left);
            EDGES.is("AT then", x.of(0, 10), 3 - left);
        }
        EDGES.is("all 40 of 41", doneAgainAll(undoneAll(mended(41))).of(0, 10), 41);
        EDGES.sentence(35, "as long as no other came behind");
        Supplier<WordChanged> other = () -> {
            WordChanged y = undoneAll(mended(3));
            y.mend(0, 11, 5);
            return y;
        };
        EDGES.refused("redo() behind another", other, y -> y.redo(), STATE);
        EDGES.is("undo() of that other", other, y -> y.undo(), 0);
        EDGES.is("redo() behind a mend() that is BAD", () -> undoneAll(mended(3)),
            y -> 10 * y.mend(0, 10, 1000) + y.redo(), -10 + 2);
        EDGES.is("redo() behind a deed", () -> undoneAll(mended(3)), y -> y.stay(1) + y.redo(), 1 + 2);
        EDGES.is("40 are kept when another comes behind two UNDONE", () -> {
            WordChanged y = mended(45);
            y.undo();
            y.undo();
            y.mend(0, 10, 500);
            return y;
        }, y -> 1000 * y.count(2) + undoneAll(y).of(0, 10), 39005);
    }

    private static WordChanged doneAgainAll(WordChanged x) {
        for (int i = 0; i < 40 && x.redo() > 0; i++) { }
        return x;
    }

    public static void main(String[] args) {
        changeToAWord();
        tellAPost();
        waitSomeMinutes();
        askWhereAndFor();
        whatItHadWithinHolds();
        whatIsLed();
        imageAndBack();
        allPostsHaveOld();
        imageOfSevenPosts();
        postsThatCameSince();
        undone();
        theSameNumberIsNone();
        doneAgain();
        EDGES.end();
    }
}
