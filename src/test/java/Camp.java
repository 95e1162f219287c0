/** Ways to lay out rows and texts that several tests need. */
final class Camp {
    private Camp() {
    }

    /** POSTS 0 (0, 0), 1 (10, 0), 2 (10, 20), 3 (0, 5). */
    static WordChanged four() {
        WordChanged x = new WordChanged();
        x.post(0, 0);
        x.post(10, 0);
        x.post(10, 20);
        x.post(0, 5);
        return x;
    }

    static WordChanged bytes(WordChanged x, int shelf, long... elements) {
        return row(x, shelf, 0, elements);
    }

    static WordChanged shorts(WordChanged x, int shelf, long... elements) {
        return row(x, shelf, 1, elements);
    }

    static WordChanged row(WordChanged x, int shelf, int sort, long... elements) {
        x.row(shelf, sort, elements.length);
        for (int i = 0; i < elements.length; i++) {
            x.put(shelf, i, elements[i]);
        }
        return x;
    }

    static int law(WordChanged x, String text) {
        for (char c : text.toCharArray()) {
            x.feed(c);
        }
        return x.law();
    }
}
