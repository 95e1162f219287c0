/** Promises 9 to 16: hears, route .. first. Which SHELVES are refused: see the edges. */
public final class ThoughtTest {
    private static final Due DUE = new Due("thought");

    /** The ROUTE 1, 2, 3 on shelf 0, AT 100: heard in 110, 131, 157. */
    private static WordChanged told() {
        WordChanged x = Camp.four();
        x.mend(0, 10, 100);
        return Camp.bytes(x, 0, 1, 2, 3);
    }

    private static void patrolIs(WordChanged x, int patrol, int out, int home, int by) {
        x.mend(patrol, 5, out);
        x.mend(patrol, 6, home);
        x.mend(patrol, 7, by);
    }

    private static void promise9Hears() {
        WordChanged x = told();
        DUE.is("9 POST 0", x.hears(0, 0), 100);
        DUE.is("9 first", x.hears(0, 1), 110);
        DUE.is("9 second", x.hears(0, 2), 131);
        DUE.is("9 third", x.hears(0, 3), 157);
        DUE.is("9 latest", x.hears(0, -1), 157);
        DUE.is("9 together", x.hears(0, -2), 98);
        DUE.is("9 below", x.hears(0, -3), -1);
        DUE.is("9 no post", x.hears(0, 4), -1);
        Camp.bytes(x, 1, 3, 0, 1);
        DUE.is("9 a 0 ends it", x.hears(1, 1), -2);
        DUE.is("9 ahead of the 0", x.hears(1, 3), 105);
        Camp.bytes(x, 1, 3, 3, 1);
        DUE.is("9 one again ends it", x.hears(1, 1), -2);
        Camp.bytes(x, 1, 3, 4, 1);
        DUE.is("9 one that is none ends it", x.hears(1, 1), -2);
        Camp.bytes(x, 1, 3, -1, 1);
        DUE.is("9 one below 0 ends it", x.hears(1, 1), -2);
        Camp.bytes(x, 1);
        DUE.is("9 latest of none", x.hears(1, -1), 100);
        DUE.is("9 together of none", x.hears(1, -2), 0);
        DUE.is("9 not in it", x.hears(1, 2), -2);
        DUE.is("9 POST 0 of none", x.hears(1, 0), 100);
    }

    private static void promise10Route() {
        WordChanged x = new WordChanged();
        DUE.is("10 no posts", x.route(0, -1), 0);
        DUE.is("10 no posts, first", x.route(0, 0), -2);
        DUE.is("10 no posts, together", x.route(1, -1), 0);
        x.post(0, 0);
        DUE.is("10 one post", x.route(1, -1), 0);
        DUE.is("10 one post, first", x.route(1, 0), -2);
        DUE.is("10 rule above", x.route(2, -1), -1);
        DUE.is("10 rule below", x.route(-1, -1), -1);
        DUE.is("10 k below", x.route(0, -2), -1);
        DUE.is("10 k far above", x.route(0, Integer.MAX_VALUE), -2);
        x = told();
        DUE.is("10 latest", x.route(0, -1), 42);
        DUE.is("10 together", x.route(1, -1), 68);
        DUE.is("10 there are not as many", x.route(0, 3), -2);
        // POSTS 1 and 2 at one place: of like ones the first by numbers.
        x = new WordChanged();
        x.post(0, 0);
        x.post(5, 0);
        x.post(5, 0);
        x.post(0, 9);
        DUE.is("10 of like ones", x.route(0, -1), 5 + 1 + 1 + 14);
        DUE.is("10 of like ones the 1st", x.route(0, 0), 1);
        DUE.is("10 of like ones the 2nd", x.route(0, 1), 2);
        DUE.is("10 of like ones the 3rd", x.route(0, 2), 3);
        // The rules part ways: near ones first is best by all together, not by the latest.
        x = new WordChanged();
        x.post(50, 0);
        x.post(40, 0);
        x.post(62, 0);
        x.post(63, 0);
        x.post(64, 0);
        x.post(65, 0);
        x.post(66, 0);
        DUE.is("10 latest, first", x.route(0, 0), 1);
        DUE.is("10 latest, minutes", x.route(0, -1), 10 + 1 + 22 + 8);
        DUE.is("10 together, first", x.route(1, 0), 2);
        DUE.is("10 together, minutes", x.route(1, -1), 12 + 14 + 16 + 18 + 20 + 47);
    }

    private static void promise11LetsIn() {
        WordChanged x = told();
        DUE.is("11 ahead", x.letsIn(0, 1109), 1);
        DUE.is("11 hears", x.letsIn(0, 1110), 3);
        DUE.is("11 last", x.letsIn(0, 1169), 3);
        DUE.is("11 over", x.letsIn(0, 1170), 2);
        DUE.is("11 POST 0 ahead", x.letsIn(0, 99), 1);
        DUE.is("11 POST 0", x.letsIn(0, 100), 3);
        DUE.is("11 below", x.letsIn(0, -1), -1);
        DUE.is("11 no post", x.letsIn(0, 4000), -1);
        x.mend(0, 11, 0);
        DUE.is("11 HOLDS 0", x.letsIn(0, 1110), 2);
        DUE.is("11 HOLDS 0 ahead", x.letsIn(0, 1109), 1);
        Camp.bytes(x, 1, 1);
        DUE.is("11 not in it", x.letsIn(1, 2999), 1);
        x.mend(0, 8, 1);
        DUE.is("11 alike", x.letsIn(1, 2999), 3);
        DUE.is("11 alike ahead", x.letsIn(1, 1000), 3);
        DUE.is("11 alike behind", x.letsIn(1, 1999), 3);
    }

    private static void promise12Patrol() {
        WordChanged x = told();
        patrolIs(x, 0, 99, 169, 1);
        DUE.is("12 OLD while it holds", x.patrol(0, 0), 1);
        x.mend(0, 6, 170);
        DUE.is("12 OLD no more", x.patrol(0, 0), 0);
        x.mend(0, 5, 100);
        DUE.is("12 knows NEW from AT on", x.patrol(0, 0), 1);
        x.mend(0, 6, 109);
        DUE.is("12 NEW too early", x.patrol(0, 0), 0);
        DUE.is("12 shot", x.patrol(0, -1), 1);
        x.mend(1, 7, 4);
        DUE.is("12 a POST that is none", x.patrol(0, 1), 0);
        DUE.is("12 shot, too", x.patrol(0, -1), 2);
        DUE.is("12 above", x.patrol(0, 4), -1);
        DUE.is("12 below", x.patrol(0, -2), -1);
        x.post(1, 1);
        DUE.is("12 once it is there", x.patrol(0, 1), 1);
    }

    private static void promise13HoldsFor() {
        WordChanged x = told();
        DUE.is("13 none needed", x.holdsFor(0), 0);
        patrolIs(x, 0, 0, 110, 1);
        DUE.is("13 one minute", x.holdsFor(0), 1);
        patrolIs(x, 1, 0, 400, 3);
        DUE.is("13 the most needed", x.holdsFor(0), 244);
        DUE.is("13 HOLDS stays", x.of(0, 11), 60);
        Camp.bytes(x, 1, 1);
        DUE.is("13 not in it", x.holdsFor(1), 1);
        patrolIs(x, 2, 100, 156, 3);
        DUE.is("13 NEW too early", x.holdsFor(0), -2);
        patrolIs(x, 2, 100, 157, 3);
        DUE.is("13 NEW", x.holdsFor(0), 244);
        x.mend(3, 7, 4);
        DUE.is("13 a POST that is none", x.holdsFor(0), -2);
        WordChanged y = new WordChanged();
        y.post(0, 0);
        Camp.bytes(y, 0);
        y.mend(0, 10, 1);
        y.mend(0, 6, 999);
        DUE.is("13 the greatest", y.holdsFor(0), 999);
        y.mend(0, 9, 0);
        DUE.is("13 alike", y.holdsFor(0), 0);
    }

    private static void promise14Stranger() {
        WordChanged x = told();
        DUE.is("14 OLD", x.stranger(0, 1109, 1), 170);
        DUE.is("14 OLD at another", x.stranger(0, 1050, 2), 191);
        DUE.is("14 both: NEW", x.stranger(0, 1110, 1), -2);
        DUE.is("14 NEW not yet there", x.stranger(0, 1110, 2), -3);
        DUE.is("14 NEW always", x.stranger(0, 1999, 2), -2);
        x.mend(0, 11, 10);
        DUE.is("14 OLD no more there", x.stranger(0, 2130, 1), -3);
        DUE.is("14 OLD just still", x.stranger(0, 2119, 1), 120);
        DUE.is("14 OLD just no more", x.stranger(0, 2120, 1), -3);
        x.mend(0, 11, 999);
        DUE.is("14 far behind", x.stranger(0, 3000, 3), 157 + 999);
        Camp.bytes(x, 1, 1);
        DUE.is("14 OLD at one not in it", x.stranger(1, 1000, 2), -2);
        DUE.is("14 NEW at one not in it", x.stranger(1, 1500, 2), -3);
        x.mend(0, 9, 0);
        DUE.is("14 alike", x.stranger(0, 1000, 1), -2);
        DUE.is("14 no post", x.stranger(0, 1000, 4), -1);
        DUE.is("14 post below", x.stranger(0, 1000, -1), -1);
        DUE.is("14 pm", x.stranger(0, 4000, 1), -1);
        DUE.is("14 pm below", x.stranger(0, -1, 1), -1);
    }

    private static void promise15Safe() {
        WordChanged x = told();
        DUE.is("15 OLD", x.safe(0, 1050, 200), 43);
        DUE.is("15 OLD just", x.safe(0, 1050, 157), 0);
        DUE.is("15 OLD not", x.safe(0, 1050, 156), -2);
        DUE.is("15 NEW", x.safe(0, 1110, 100), -2);
        DUE.is("15 NEW ahead", x.safe(0, 1110, 99), 999);
        Camp.bytes(x, 1, 1, 2);
        DUE.is("15 one not in it", x.safe(1, 1050, 999), -2);
        DUE.is("15 m 999", x.safe(0, 1050, 999), 842);
        DUE.is("15 NEW, m 999", x.safe(0, 1110, 999), -2);
        for (int m : new int[] {1000, 1156, 2000000, Integer.MAX_VALUE, -1, Integer.MIN_VALUE}) {
            DUE.is("15 OLD, m " + m, x.safe(0, 1050, m), -1);
            DUE.is("15 NEW, m " + m, x.safe(0, 1110, m), -1);
            DUE.is("15 one not in it, m " + m, x.safe(1, 1050, m), -1);
        }
        DUE.is("15 m 0", x.safe(0, 1050, 0), -2);
        DUE.is("15 NEW, m 0", x.safe(0, 1110, 0), 999);
        DUE.is("15 pm", x.safe(0, 4000, 1), -1);
        DUE.is("15 HOLDS stays", x.of(0, 11), 60);
        x.mend(0, 9, 0);
        DUE.is("15 alike", x.safe(0, 1050, 999), -2);
        WordChanged y = new WordChanged();
        y.post(0, 0);
        Camp.bytes(y, 0);
        y.mend(0, 10, 1);
        DUE.is("15 the most OLD", y.safe(0, 0, 999), 998);
    }

    private static void promise16First() {
        WordChanged x = told();
        Camp.bytes(x, 1);
        DUE.is("16 nobody", x.first(1, 0), -2);
        DUE.is("16 nobody, how many", x.first(1, 1), -2);
        DUE.is("16 what above", x.first(0, 2), -1);
        DUE.is("16 what below", x.first(0, -1), -1);
        DUE.is("16 of like ones the earliest", x.first(0, 0), 1);
        DUE.is("16 all", x.first(0, 1), 4);
        Camp.bytes(x, 0, 2, 1, 3);
        DUE.is("16 of like ones the earliest in the ROUTE", x.first(0, 0), 2);
        patrolIs(x, 0, 100, 106, 3);
        DUE.is("16 told first", x.first(0, 0), 3);
        DUE.is("16 all then", x.first(0, 1), 4);
        patrolIs(x, 0, 100, 104, 3);
        DUE.is("16 nothing helps", x.first(0, 0), 2);
        DUE.is("16 but one", x.first(0, 1), 3);
        // 3 first: then 2 in 105 + 1 + 25 = 131, 1 in 131 + 1 + 20 = 152.
        patrolIs(x, 0, 100, 105, 3);
        patrolIs(x, 1, 100, 131, 2);
        patrolIs(x, 2, 100, 152, 1);
        DUE.is("16 all others behind it as they were", x.first(0, 0), 3);
        DUE.is("16 all of them", x.first(0, 1), 4);
        patrolIs(x, 2, 100, 151, 1);
        DUE.is("16 a minute too early", x.first(0, 1), 3);
    }

    public static void main(String[] args) {
        promise9Hears();
        promise10Route();
        promise11LetsIn();
        promise12Patrol();
        promise13HoldsFor();
        promise14Stranger();
        promise15Safe();
        promise16First();
        DUE.end();
    }
}
