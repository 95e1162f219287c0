/** Promises 22 to 26: judge, which, when, oddWord, drawn. Which SHELVES are refused: see the edges. */
public final class SaidTest {
    private static final Due DUE = new Due("said");

    /** The ROUTE 1, 2, 3 on shelf 0, AT 100: heard in 110, 131, 157; OLD 0 and NEW 1, HOLDS 60. */
    private static WordChanged said(long... threes) {
        WordChanged x = Camp.four();
        x.mend(0, 10, 100);
        Camp.bytes(x, 0, 1, 2, 3);
        return Camp.shorts(x, 1, threes);
    }

    private static void judged(int want, long... threes) {
        DUE.is("22 judge of " + java.util.Arrays.toString(threes), said(threes).judge(1), want);
    }

    private static void promise22Judge() {
        judged(-2);
        judged(-2, 1, 109, 0);
        judged(0, 1, 109, 1);
        judged(-2, 1, 110, 1);
        judged(-2, 1, 169, 0);
        judged(0, 1, 170, 0);
        judged(-2, 1, 110, 1, 2, 190, 0, 3, 999, 1);
        judged(1, 1, 110, 1, 2, 191, 0, 3, 999, 1);
        judged(2, 1, 110, 1, 2, 190, 0, 3, 999);
        judged(1, 1, 110, 1, 2);
        judged(0, 1);
        judged(0, 4, 0, 0);
        judged(0, -1, 0, 0);
        judged(0, 1, -1, 0);
        judged(0, 1, -1, 1);
        judged(0, 1, Short.MIN_VALUE, 0);
        judged(-2, 1, 999, 1);
        judged(0, 1, 0, 10);
        judged(0, 1, 0, -1);
        judged(0, 1, 0, 2);
        judged(-2, 0, 99, 0, 0, 100, 1);
        judged(-2, 1, 0, 0);
        judged(0, 0, 99, 1);
        WordChanged x = said(2, 999, 0);
        Camp.bytes(x, 0, 1);
        DUE.is("22 OLD at one not in it", x.judge(1), -2);
        x.put(1, 2, 1);
        DUE.is("22 NEW at one not in it", x.judge(1), 0);
        x.mend(0, 8, 1);
        DUE.is("22 alike", x.judge(1), -2);
    }

    private static void anyShelves() {
        WordChanged x = said(1, 110, 1);
        Camp.bytes(x, 5, 1, 2, 3);
        Camp.shorts(x, 0, 1, 109, 7);
        Camp.shorts(x, 3, 1, 112, 0);
        DUE.is("22 judge(51)", x.judge(51), -2);
        DUE.is("22 judge(50)", x.judge(50), 0);
        DUE.is("22 judge(53)", x.judge(53), -2);
        DUE.is("24 when(53)", x.when(53), 43);
        DUE.is("25 oddWord(50)", x.oddWord(50), -2);
        x.put(0, 1, 111);
        DUE.is("25 oddWord(50) a minute later", x.oddWord(50), 7);
        DUE.is("25 oddWord(51)", x.oddWord(51), 1);
        DUE.is("22 judge(0)", x.judge(0), -12);
        x.keep(0, -1);
        DUE.is("22 nothing in both", x.judge(0), -11);
    }

    private static void promise23Which() {
        WordChanged x = said();
        DUE.is("23 all", x.which(1, 0), 6);
        DUE.is("23 the first", x.which(1, 1), 123);
        Camp.shorts(x, 1, 3, 105, 1);
        DUE.is("23 with 3 first", x.which(1, 0), 2);
        DUE.is("23 the first of them", x.which(1, 1), 312);
        Camp.shorts(x, 1, 3, 104, 1);
        DUE.is("23 none", x.which(1, 0), 0);
        DUE.is("23 none, the first", x.which(1, 1), -2);
        Camp.shorts(x, 1, 0, 99, 1);
        DUE.is("23 POST 0", x.which(1, 0), 0);
        // 3 hears in 105 if it is first, in 121 behind 1: OLD in 180 wants 121 or later, in 181 later.
        Camp.shorts(x, 1, 3, 180, 0, 1, 110, 1);
        DUE.is("23 just late enough", x.which(1, 1), 123);
        DUE.is("23 just late enough, both", x.which(1, 0), 2);
        Camp.shorts(x, 1, 3, 186, 0, 1, 110, 1, 3, 126, 1);
        DUE.is("23 a minute of one way", x.which(1, 0), 0);
        Camp.shorts(x, 1, 3, 185, 0, 1, 110, 1, 3, 126, 1);
        DUE.is("23 just that minute", x.which(1, 1), 132);
        Camp.shorts(x, 1, 1, 110, 1, 2);
        DUE.is("23 lacks", x.which(1, 0), 0);
        DUE.is("23 lacks, the first", x.which(1, 1), -2);
        Camp.shorts(x, 1, 4, 110, 1);
        DUE.is("23 none", x.which(1, 0), 0);
        WordChanged y = new WordChanged();
        for (int i = 0; i < 7; i++) y.post(i, 0);
        Camp.shorts(y, 1);
        DUE.is("23 of seven", y.which(1, 0), 720);
        DUE.is("23 of seven the first", y.which(1, 1), 123456);
        Camp.shorts(y, 1, 6, 6, 1);
        DUE.is("23 of seven with 6 first", y.which(1, 0), 120);
        DUE.is("23 of seven the first of them", y.which(1, 1), 612345);
        WordChanged z = new WordChanged();
        Camp.shorts(z, 1);
        DUE.is("23 no posts", z.which(1, 0), 1);
        DUE.is("23 no posts, the first", z.which(1, 1), 0);
    }

    private static void promise24When() {
        WordChanged x = said();
        DUE.is("24 nothing said", x.when(1), 0);
        Camp.shorts(x, 1, 1, 110, 0);
        DUE.is("24 OLD still", x.when(1), 41);
        Camp.shorts(x, 1, 1, 110, 0, 2, 72, 1);
        DUE.is("24 both, just", x.when(1), 41);
        Camp.shorts(x, 1, 1, 110, 0, 2, 71, 1);
        DUE.is("24 both, no more", x.when(1), -2);
        Camp.shorts(x, 1, 1, 9, 1);
        DUE.is("24 NEW too early", x.when(1), -2);
        Camp.shorts(x, 1, 1, 10, 1);
        DUE.is("24 NEW just", x.when(1), 0);
        Camp.shorts(x, 1, 0, 999, 0);
        DUE.is("24 late", x.when(1), 940);
        x.mend(0, 11, 0);
        DUE.is("24 behind all", x.when(1), -2);
        x.mend(0, 11, 1);
        DUE.is("24 the last", x.when(1), 999);
        Camp.bytes(x, 0, 1);
        Camp.shorts(x, 1, 2, 999, 0);
        DUE.is("24 OLD at one not in it", x.when(1), 0);
        Camp.shorts(x, 1, 2, 999, 1);
        DUE.is("24 NEW at one not in it", x.when(1), -2);
        Camp.shorts(x, 1, 1, 999);
        DUE.is("24 lacks", x.when(1), -2);
        Camp.shorts(x, 1, 1, 999, 2);
        DUE.is("24 another word", x.when(1), -2);
        DUE.is("24 AT stays", x.of(0, 10), 100);
    }

    private static void promise25OddWord() {
        WordChanged x = said();
        DUE.is("25 nothing said", x.oddWord(1), 0);
        Camp.shorts(x, 1, 1, 999, 7);
        DUE.is("25 told", x.oddWord(1), 7);
        Camp.shorts(x, 1, 1, 109, 7);
        DUE.is("25 too early", x.oddWord(1), -2);
        Camp.shorts(x, 1, 1, 999, 7, 2, 999, 6);
        DUE.is("25 two words", x.oddWord(1), -2);
        Camp.shorts(x, 1, 1, 999, 0);
        DUE.is("25 OLD as NEW", x.oddWord(1), 0);
        Camp.shorts(x, 1, 1, 100, 0, 1, 200, 4);
        DUE.is("25 OLD, then one", x.oddWord(1), 4);
        Camp.shorts(x, 1, 1, 200, 0, 1, 200, 4);
        DUE.is("25 OLD too late, then one", x.oddWord(1), -2);
        Camp.shorts(x, 1, 1, 200);
        DUE.is("25 lacks", x.oddWord(1), -2);
        Camp.shorts(x, 1, 0, 99, 4);
        DUE.is("25 POST 0 too early", x.oddWord(1), -2);
        Camp.shorts(x, 1, 0, 100, 4, 0, 159, 0);
        DUE.is("25 POST 0", x.oddWord(1), 4);
        DUE.is("25 NEW stays", x.of(0, 9), 1);
    }

    /** The ROUTE 1, 2, 3 on shelf 0, AT 999: heard in 1009, 1030, 1056. */
    private static WordChanged saidLate(long... threes) {
        WordChanged x = said(threes);
        x.mend(0, 10, 999);
        return x;
    }

    private static void judgedBehind999() {
        judged(-2, 1, 1000, 1);
        judged(0, 1, 1000, 0);
        judged(-2, 1, Short.MAX_VALUE, 1);
        judged(0, 1, 1000, 2);
        judged(1, 0, 1000, 1, 4, 1000, 1);
        judged(1, 0, 1000, 1, 0, 1000);
        DUE.is("22 NEW late", saidLate(3, 1056, 1).judge(1), -2);
        DUE.is("22 NEW late, not yet", saidLate(3, 1055, 1).judge(1), 0);
        DUE.is("22 OLD late", saidLate(3, 1115, 0).judge(1), -2);
        DUE.is("22 OLD late, no more", saidLate(3, 1116, 0).judge(1), 0);
        WordChanged x = saidLate(3, Short.MAX_VALUE, 0);
        Camp.bytes(x, 0, 1, 2);
        DUE.is("22 OLD late at one not in it", x.judge(1), -2);
        x.put(1, 2, 1);
        DUE.is("22 NEW late at one not in it", x.judge(1), 0);
    }

    private static void readBackBehind999() {
        WordChanged x = saidLate(2, 1089, 0, 2, 1030, 1, 3, 1115, 0);
        DUE.is("23 late", x.which(1, 0), 1);
        DUE.is("23 late, the first", x.which(1, 1), 123);
        // OLD in 1090 wants that 2 hears in 1031 or later: behind 1 alone it hears in 1030, behind both in 1051.
        Camp.shorts(x, 1, 2, 1090, 0);
        DUE.is("23 late, behind 3", x.which(1, 1), 132);
        Camp.shorts(x, 1, 0, 1059, 0);
        DUE.is("23 late, none", x.which(1, 0), 0);
        DUE.is("23 late, none, the first", x.which(1, 1), -2);
        Camp.shorts(x, 1, 1, Short.MAX_VALUE, 1);
        DUE.is("23 very late", x.which(1, 0), 6);
        DUE.is("24 very late", x.when(1), 0);
        DUE.is("25 very late", x.oddWord(1), 1);
        Camp.shorts(x, 1, 0, 1058, 0);
        DUE.is("24 OLD late, the last AT", x.when(1), 999);
        DUE.is("25 OLD late", x.oddWord(1), 0);
        Camp.shorts(x, 1, 0, 1059, 0);
        DUE.is("24 OLD behind all", x.when(1), -2);
        Camp.shorts(x, 1, 3, 1100, 0, 3, 1041, 1);
        DUE.is("24 just one AT", x.when(1), 984);
        Camp.shorts(x, 1, 3, 1101, 0, 3, 1041, 1);
        DUE.is("24 no AT", x.when(1), -2);
        Camp.shorts(x, 1, 3, 1056, 6);
        DUE.is("25 late", x.oddWord(1), 6);
        Camp.shorts(x, 1, 3, 1055, 6);
        DUE.is("25 late, too early", x.oddWord(1), -2);
        Camp.shorts(x, 1, 3, 1056, 6, 3, 1115, 0);
        DUE.is("25 late, OLD too", x.oddWord(1), 6);
        Camp.shorts(x, 1, 3, -1, 0);
        DUE.is("23 below 0", x.which(1, 0), 0);
        DUE.is("24 below 0", x.when(1), -2);
        DUE.is("25 below 0", x.oddWord(1), -2);
    }

    private static void promise26Drawn() {
        WordChanged x = said();
        DUE.is("26 n 0", x.drawn(0, 1, 0, 0), -1);
        DUE.is("26 n 31", x.drawn(0, 1, 31, 0), -1);
        DUE.is("26 what above", x.drawn(0, 1, 1, 2), -1);
        DUE.is("26 what below", x.drawn(0, 1, 1, -1), -1);
        DUE.is("26 none misheard", x.drawn(0, 1, 30, 0), 90);
        Camp.law(x, "12");
        DUE.is("26 all misheard", x.drawn(0, 1, 30, 0), 0);
        DUE.is("26 patrols with OLD", x.drawn(0, 1, 30, 1), 120);
        x.mend(0, 5, 999);
        x.mend(0, 6, 999);
        x.mend(0, 7, 1);
        DUE.is("26 one who knows NEW", x.drawn(0, 1, 30, 1), 90);
        x.mend(1, 4, 1);
        DUE.is("26 misheard as itself", x.drawn(0, 1, 30, 1), 120);
        x.mend(1, 4, 2);
        Camp.law(x, "6");
        int z = -77;
        int right = 0;
        int letIn = 0;
        for (int night = 0; night < 25; night++) {
            for (int i = 0; i < 3; i++) {
                z = z * 1103515245 + 12345;
                if ((z >>> 8) % 12 >= 6) {
                    right++;
                    letIn += i == 0 ? 1 : 0;
                }
            }
            letIn += 3;
        }
        DUE.is("26 by half", x.drawn(0, -77, 25, 0), right);
        DUE.is("26 by half, patrols", x.drawn(0, -77, 25, 1), letIn);
        x.mend(0, 6, 109);
        DUE.is("26 NEW ahead of its draw", x.drawn(0, -77, 25, 1), 75);
        x.mend(0, 5, 0);
        DUE.is("26 OLD ahead of its draw", x.drawn(0, -77, 25, 1), 100);
    }

    public static void main(String[] args) {
        promise22Judge();
        anyShelves();
        promise23Which();
        promise24When();
        promise25OddWord();
        judgedBehind999();
        readBackBehind999();
        promise26Drawn();
        DUE.end();
    }
}
