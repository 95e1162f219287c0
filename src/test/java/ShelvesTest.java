/** Promises 39 to 45: keep, row, put, element, shift, taken, count. */
public final class ShelvesTest {
    private static final Due DUE = new Due("shelves");
    private static final long NONE = Long.MIN_VALUE;

    private static void promise39Keep() {
        WordChanged x = new WordChanged();
        DUE.is("39 no body", x.keep(0, 0), -1);
        x.body(3);
        DUE.is("39 a body", x.keep(0, 0), 1);
        DUE.is("39 is there", x.taken(0, 3), 3);
        DUE.is("39 nothing", x.keep(0, -1), 1);
        DUE.is("39 is gone", x.taken(0, 3), -11);
        DUE.is("39 below", x.keep(0, -2), -1);
        DUE.is("39 no shelf", x.keep(6, 0), -1);
        DUE.is("39 shelf below", x.keep(-1, 0), -1);
        x.row(1, 0, 3);
        DUE.is("39 in place of a row", x.keep(1, 0), 1);
        DUE.is("39 no row any more", x.put(1, 0, 1), -12);
        DUE.is("39 what was there stays", x.keep(1, 7), -1);
        DUE.is("39 it is", x.taken(1, 0), 3);
    }

    private static void promise40Row() {
        WordChanged x = new WordChanged();
        DUE.is("40 no shelf", x.row(6, 0, 1), -1);
        DUE.is("40 shelf below", x.row(-1, 0, 1), -1);
        DUE.is("40 sort above", x.row(0, 5, 1), -1);
        DUE.is("40 sort below", x.row(0, -1, 1), -1);
        DUE.is("40 too long", x.row(0, 0, 61), -1);
        DUE.is("40 below 0", x.row(0, 0, -1), -14);
        DUE.is("40 far below 0", x.row(0, 4, Integer.MIN_VALUE), -14);
        DUE.is("40 BAD ahead of -14", x.row(0, 5, -1), -1);
        DUE.is("40 nothing came", x.put(0, 0, 1), -11);
        for (int sort = 0; sort < 5; sort++) {
            DUE.is("40 row", x.row(sort, sort, 60), 1);
            for (int i = 0; i < 60; i++) DUE.is("40 0 at first", x.element(sort, i), 0);
            DUE.is("40 its end", x.element(sort, 60), NONE);
        }
        x.put(0, 59, 5);
        x.row(0, 0, 60);
        DUE.is("40 anew", x.element(0, 59), 0);
        DUE.is("40 empty", x.row(0, 0, 0), 1);
        DUE.is("40 nothing is in it", x.put(0, 0, 1), -13);
    }

    private static void promises41And42PutElement() {
        WordChanged x = new WordChanged();
        DUE.is("41 no shelf", x.put(6, 0, 1), -1);
        DUE.is("42 no shelf", x.element(6, 0), NONE);
        DUE.is("41 shelf below", x.put(-1, 0, 1), -1);
        DUE.is("42 shelf below", x.element(-1, 0), NONE);
        DUE.is("41 nothing", x.put(0, 0, 1), -11);
        DUE.is("42 nothing", x.element(0, 0), NONE);
        x.keep(0, x.body(0));
        DUE.is("41 a body", x.put(0, 0, 1), -12);
        DUE.is("41 a body, no place", x.put(0, -1, 1), -12);
        DUE.is("42 a body", x.element(0, 0), NONE);
        long[] given = {0x1234567890ABCDEFL, -1, 128, 32768, 1L << 31, 1L << 32, Long.MIN_VALUE + 1, 300};
        for (int sort = 0; sort < 5; sort++) {
            x.row(1, sort, 3);
            DUE.is("41 place below", x.put(1, -1, 1), -13);
            DUE.is("41 place above", x.put(1, 3, 1), -13);
            DUE.is("42 place below", x.element(1, -1), NONE);
            DUE.is("42 place above", x.element(1, 3), NONE);
            for (long v : given) {
                long[] dues = {(byte) v, (short) v, (int) v, v, v != 0 ? 1 : 0};
                DUE.is("41 put", x.put(1, 1, v), 1);
                DUE.is("42 element of sort " + sort + " given " + v, x.element(1, 1), dues[sort]);
                DUE.is("42 ahead of it", x.element(1, 0), 0);
                DUE.is("42 behind it", x.element(1, 2), 0);
            }
        }
        x.put(1, 1, 0);
        DUE.is("42 false", x.element(1, 1), 0);
    }

    private static void promise43Shift() {
        WordChanged x = new WordChanged();
        Camp.row(x, 0, 2, 1, 2, 3, 4, 5);
        Camp.row(x, 1, 2, 6, 7, 8);
        Camp.row(x, 2, 3, 6, 7, 8);
        x.keep(3, x.body(0));
        DUE.is("43 no shelf", x.shift(6, 0, 1, 0, 1), -1);
        DUE.is("43 no other", x.shift(0, 0, -1, 0, 1), -1);
        DUE.is("43 nothing", x.shift(4, 0, 1, 0, 1), -11);
        DUE.is("43 nothing in the other", x.shift(0, 0, 4, 0, 1), -11);
        DUE.is("43 a body, and nothing", x.shift(3, 0, 4, 0, 1), -11);
        DUE.is("43 a body", x.shift(3, 0, 1, 0, 1), -12);
        DUE.is("43 a body in the other", x.shift(0, 0, 3, 0, 1), -12);
        DUE.is("43 both bodies", x.shift(3, 0, 3, 0, 0), -12);
        DUE.is("43 unlike", x.shift(0, 0, 2, 0, 1), -12);
        DUE.is("43 unlike ahead of -13", x.shift(0, 0, 2, 0, -1), -12);
        DUE.is("43 n below", x.shift(0, 0, 1, 0, -1), -13);
        DUE.is("43 n far below", x.shift(0, 0, 1, 0, Integer.MIN_VALUE), -13);
        DUE.is("43 i below", x.shift(0, -1, 1, 0, 1), -13);
        DUE.is("43 j below", x.shift(0, 0, 1, -1, 1), -13);
        DUE.is("43 i too far", x.shift(0, 4, 1, 0, 2), -13);
        DUE.is("43 j too far", x.shift(0, 0, 1, 2, 2), -13);
        DUE.is("43 i wraps", x.shift(0, Integer.MAX_VALUE, 1, 0, Integer.MAX_VALUE), -13);
        DUE.is("43 none at the end", x.shift(0, 5, 1, 3, 0), 0);
        DUE.is("43 none behind the end", x.shift(0, 6, 1, 0, 0), -13);
        DUE.is("43 two", x.shift(0, 3, 1, 1, 2), 2);
        DUE.is("43 first", x.element(1, 0), 6);
        DUE.is("43 came", x.element(1, 1), 4);
        DUE.is("43 came, too", x.element(1, 2), 5);
        DUE.is("43 up", x.shift(0, 0, 0, 1, 4), 4);
        long[] up = {1, 1, 2, 3, 4};
        for (int i = 0; i < 5; i++) DUE.is("43 as they were before, " + i, x.element(0, i), up[i]);
        DUE.is("43 down", x.shift(0, 2, 0, 0, 3), 3);
        long[] down = {2, 3, 4, 3, 4};
        for (int i = 0; i < 5; i++) DUE.is("43 as they were before, " + i, x.element(0, i), down[i]);
    }

    private static void promise44Taken() {
        int[] above = {-1, 0, 0, 2, 1, 3, 0, 6};
        WordChanged x = new WordChanged();
        for (int k = 0; k < 8; k++) {
            x.keep(0, x.body(k));
            for (int asked = 0; asked < 8; asked++) {
                boolean under = false;
                for (int up = k; up >= 0; up = above[up]) under |= up == asked;
                DUE.is("44 " + k + " taken for " + asked, x.taken(0, asked), under ? k : -12);
            }
        }
        DUE.is("44 above", x.taken(0, 8), -1);
        DUE.is("44 below", x.taken(0, -1), -1);
        DUE.is("44 no shelf", x.taken(6, 0), -1);
        DUE.is("44 nothing", x.taken(1, 0), -11);
        DUE.is("44 BAD ahead of -11", x.taken(1, 8), -1);
        x.row(1, 0, 1);
        DUE.is("44 a row", x.taken(1, 0), -12);
    }

    private static void promise45Count() {
        WordChanged x = Camp.four();
        x.feed(1);
        x.feed(2);
        x.mend(0, 11, 1);
        x.mend(0, 11, 2);
        x.mend(0, 11, 3);
        x.undo();
        x.body(0);
        x.act(0, 3, 1);
        int[] dues = {4, 2, 2, 1, 4};
        for (int i = 0; i < 5; i++) DUE.is("45 count(" + i + ")", x.count(i), dues[i]);
        DUE.is("45 above", x.count(5), -1);
        DUE.is("45 below", x.count(-1), -1);
    }

    public static void main(String[] args) {
        promise39Keep();
        promise40Row();
        promises41And42PutElement();
        promise43Shift();
        promise44Taken();
        promise45Count();
        DUE.end();
    }
}
