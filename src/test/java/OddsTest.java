/** Promises 17 to 21: right, twice, word, odds, guess. Which SHELVES are refused: see the edges. */
public final class OddsTest {
    private static final Due DUE = new Due("odds");
    private static final long NONE = Long.MIN_VALUE;

    /** The ROUTE 1, 2, 3: misheard by 3, 0, 8 of twelve. */
    private static WordChanged misheard() {
        WordChanged x = Camp.four();
        x.mend(0, 10, 100);
        x.mend(1, 2, 6);
        x.mend(3, 2, 9);
        return Camp.bytes(x, 0, 1, 2, 3);
    }

    private static void right(WordChanged x, int post, int twice, long above, long below) {
        String name = "17 right(0, " + post + ", " + twice + ", ..)";
        DUE.is(name + " above", x.right(0, post, twice, 0), above);
        DUE.is(name + " below", x.right(0, post, twice, 1), below);
    }

    private static void promise17Right() {
        WordChanged x = misheard();
        right(x, 0, 0, 1, 1);
        right(x, 0, 1, 1, 1);
        right(x, 1, 0, 3, 4);
        right(x, 1, 2, 15, 16);
        right(x, 1, 13, 3, 4);
        right(x, 2, 0, 1, 1);
        right(x, 3, 8, 5, 9);
        right(x, -1, 0, 1, 4);
        right(x, -1, 10, 25, 48);
        right(x, -2, 0, 25, 12);
        right(x, -2, 15, 359, 144);
        Camp.bytes(x, 0, 1);
        right(x, 3, 0, 0, 1);
        right(x, -1, 0, 3, 4);
        Camp.bytes(x, 0, 3);
        right(x, 1, 2, 0, 1);
        right(x, 3, 0, 1, 2);
        Camp.bytes(x, 0);
        right(x, -1, 0, 1, 1);
        right(x, -2, 0, 0, 1);
        Camp.law(x, "12");
        Camp.bytes(x, 0, 1, 2);
        right(x, 1, 2, 0, 1);
        right(x, -1, 0, 0, 1);
        right(x, -2, 0, 0, 1);
        DUE.is("17 post above", x.right(0, 4, 0, 0), NONE);
        DUE.is("17 post below", x.right(0, -3, 0, 0), NONE);
        DUE.is("17 set below", x.right(0, 1, -1, 0), NONE);
        DUE.is("17 set of one that is none", x.right(0, 1, 16, 0), NONE);
        DUE.is("17 part above", x.right(0, 1, 0, 2), NONE);
        DUE.is("17 part below", x.right(0, 1, 0, -1), NONE);
        // Six of 143 by 144 each: the line's both sides stay within a long.
        WordChanged y = new WordChanged();
        for (int i = 0; i < 7; i++) y.post(i, i);
        Camp.bytes(y, 0, 1, 2, 3, 4, 5, 6);
        Camp.law(y, "1");
        right(y, -1, 126, 143L * 143 * 143 * 143 * 143 * 143, 144L * 144 * 144 * 144 * 144 * 144);
    }

    private static void promise18Twice() {
        WordChanged x = misheard();
        DUE.is("18 none, set", x.twice(0, 0, 2), 0);
        DUE.is("18 none, above", x.twice(0, 0, 0), 1);
        DUE.is("18 none, below", x.twice(0, 0, 1), 4);
        DUE.is("18 one, set", x.twice(0, 1, 2), 8);
        DUE.is("18 one, above", x.twice(0, 1, 0), 5);
        DUE.is("18 one, below", x.twice(0, 1, 1), 12);
        DUE.is("18 two, set", x.twice(0, 2, 2), 10);
        DUE.is("18 as many as there are", x.twice(0, 6, 2), 14);
        Camp.bytes(x, 0, 2, 3);
        DUE.is("18 only of the ROUTE", x.twice(0, 6, 2), 12);
        Camp.law(x, "0");
        DUE.is("18 of like ones the least bits", x.twice(0, 1, 2), 4);
        Camp.law(x, "12");
        DUE.is("18 never: the least bits", x.twice(0, 1, 2), 4);
        DUE.is("18 never, above", x.twice(0, 1, 0), 0);
        DUE.is("18 never, below", x.twice(0, 1, 1), 1);
        Camp.bytes(x, 0);
        DUE.is("18 an empty ROUTE", x.twice(0, 3, 2), 0);
        DUE.is("18 an empty ROUTE, above", x.twice(0, 3, 0), 1);
        DUE.is("18 n above", x.twice(0, 7, 0), NONE);
        DUE.is("18 n below", x.twice(0, -1, 0), NONE);
        DUE.is("18 part above", x.twice(0, 1, 3), NONE);
        DUE.is("18 part below", x.twice(0, 1, -1), NONE);
    }

    private static void promise19Word() {
        WordChanged x = misheard();
        DUE.is("19 of like ones the least but OLD", x.word(0), 1);
        x.mend(5, 3, 9);
        DUE.is("19 the longest", x.word(0), 5);
        x.mend(0, 8, 5);
        DUE.is("19 not OLD", x.word(0), 0);
        x.mend(0, 9, 5);
        DUE.is("19 NEW does not matter", x.word(0), 0);
        Camp.law(x, "12-w");
        DUE.is("19 by the law", x.word(0), 9);
        Camp.law(x, "9-l");
        DUE.is("19 unlike its LIKE", x.word(0), 4);
        Camp.bytes(x, 0);
        DUE.is("19 an empty ROUTE", x.word(0), 0);
        DUE.is("19 NEW stays", x.of(0, 9), 5);
    }

    private static void odds(WordChanged x, long above, long below, String when) {
        DUE.is("20 above, " + when, x.odds(0, 0, 0), above);
        DUE.is("20 below, " + when, x.odds(0, 0, 1), below);
    }

    private static void promise20Odds() {
        WordChanged x = misheard();
        x.mend(0, 7, 3);
        x.mend(0, 5, 100);
        x.mend(0, 6, 157);
        odds(x, 1, 3, "NEW");
        x.mend(0, 6, 156);
        odds(x, 0, 1, "NEW too early");
        x.mend(0, 5, 99);
        odds(x, 1, 1, "OLD ahead");
        x.mend(0, 6, 216);
        odds(x, 1, 1, "OLD holds though misheard");
        x.mend(0, 6, 217);
        odds(x, 0, 1, "OLD is over");
        x.mend(1, 4, 0);
        odds(x, 2, 3, "misheard as OLD");
        x.mend(1, 4, 2);
        x.mend(0, 9, 0);
        x.mend(0, 4, 5);
        odds(x, 1, 3, "alike, HOLDS are over");
        x.mend(0, 6, 216);
        odds(x, 1, 1, "alike, till HOLDS are over");
        x.mend(0, 7, 0);
        x.mend(0, 6, 999);
        odds(x, 1, 1, "POST 0 never mishears");
        x.mend(0, 7, 6);
        odds(x, 0, 1, "a POST that is none");
        x.mend(0, 9, 1);
        x.mend(0, 7, 3);
        Camp.bytes(x, 0, 1);
        odds(x, 1, 1, "OLD at one not in it");
        x.mend(0, 5, 100);
        odds(x, 0, 1, "NEW at one not in it");
        Camp.bytes(x, 0, 3, 1);
        odds(x, 1, 2, "the first in it");
        DUE.is("20 patrol above", x.odds(0, 4, 0), NONE);
        DUE.is("20 patrol below", x.odds(0, -1, 0), NONE);
        DUE.is("20 part above", x.odds(0, 0, 2), NONE);
        DUE.is("20 part below", x.odds(0, 0, -1), NONE);
    }

    private static void promise21Guess() {
        WordChanged x = misheard();
        long[] aboveOfTwo = {1, 17, 8, 2, 7, 13, 14, 44, 1, 1};
        long[] belowOfTwo = {5, 45, 15, 3, 9, 15, 15, 45, 1, 1};
        long[] aboveOfOne = {1, 1, 3, 2, 1, 3, 7, 4, 9, 1};
        long[] belowOfOne = {10, 5, 10, 5, 2, 5, 10, 5, 10, 1};
        for (int n = 1; n <= 10; n++) {
            DUE.is("21 two, above, n " + n, x.guess(0, 1120, n, 0), aboveOfTwo[n - 1]);
            DUE.is("21 two, below, n " + n, x.guess(0, 1120, n, 1), belowOfTwo[n - 1]);
            DUE.is("21 one, above, n " + n, x.guess(0, 1050, n, 0), aboveOfOne[n - 1]);
            DUE.is("21 one, below, n " + n, x.guess(0, 1050, n, 1), belowOfOne[n - 1]);
        }
        x.mend(0, 9, 0);
        DUE.is("21 alike", x.guess(0, 1120, 1, 1), 10);
        DUE.is("21 n above", x.guess(0, 1120, 11, 0), NONE);
        DUE.is("21 n below", x.guess(0, 1120, 0, 0), NONE);
        DUE.is("21 pm above", x.guess(0, 4000, 1, 0), NONE);
        DUE.is("21 pm below", x.guess(0, -1, 1, 0), NONE);
        DUE.is("21 part above", x.guess(0, 1120, 1, 2), NONE);
    }

    public static void main(String[] args) {
        promise17Right();
        promise18Twice();
        promise19Word();
        promise20Odds();
        promise21Guess();
        DUE.end();
    }
}
