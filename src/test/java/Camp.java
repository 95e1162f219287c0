/** Ways to lay out rows and texts that several tests need. */
final class Camp {
    private Camp() {
    }

    /** POSTS 0 (0, 0), 1 (10, 0), 2 (10, 20), 3 (0, 5). */
    static WordChanged four() {
        WordChanged x = new WordChanged();
        x.post(0, 0);
        x.post(10, 0);
        x.post(10, 20);
        x.post(0, 5);
        return x;
    }

    /**
     * Something of everything, so that whatever a call changes is seen. SHELVES: 0 the ROUTE 1, 2, 3 (heard in 110,
     * 131, 157), 1 what was SAID, 2 ints, 3 a BODY, 4 nothing, 5 bytes from which POSTS may come.
     */
    static WordChanged rich() {
        WordChanged x = four();
        x.mend(0, 10, 100);
        x.mend(1, 2, 6);
        x.mend(3, 2, 9);
        x.mend(0, 5, 120);
        x.mend(0, 6, 160);
        x.mend(0, 7, 3);
        x.mend(2, 3, 7);
        x.mend(2, 4, 8);
        x.undo();
        x.undo();
        law(x, "c+n-2");
        x.feed('7');
        bytes(x, 0, 1, 2, 3);
        shorts(x, 1, 1, 120, 1, 2, 140, 0);
        row(x, 2, 2, 5, 6, 7);
        bytes(x, 5, 7, 8, 9, 10, 11, 12);
        x.body(5);
        x.body(7);
        x.keep(3, 1);
        x.act(0, 3, 5);
        x.change(4);
        x.stay(10);
        x.tell(1);
        x.ask(1, 4);
        x.image();
        x.stay(25);
        x.tell(2);
        x.change(6);
        x.ask(2, 9);
        x.stay(15);
        return x;
    }

    /** As rich(), with all POSTS that there may be. */
    static WordChanged full() {
        WordChanged x = rich();
        x.post(40, 40);
        x.post(50, 50);
        x.post(60, 60);
        return x;
    }

    static WordChanged bytes(WordChanged x, int shelf, long... elements) {
        return row(x, shelf, 0, elements);
    }

    static WordChanged shorts(WordChanged x, int shelf, long... elements) {
        return row(x, shelf, 1, elements);
    }

    static WordChanged row(WordChanged x, int shelf, int sort, long... elements) {
        x.row(shelf, sort, elements.length);
        for (int i = 0; i < elements.length; i++) {
            x.put(shelf, i, elements[i]);
        }
        return x;
    }

    static int law(WordChanged x, String text) {
        for (char c : text.toCharArray()) {
            x.feed(c);
        }
        return x.law();
    }
}
