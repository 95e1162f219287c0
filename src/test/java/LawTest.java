import java.util.Random;

/** Promises 6 to 8: feed, law, mishears; texts by hand, then drawn ones beside the model. */
public final class LawTest {
    private static final Due DUE = new Due("law");

    private static void promise6Feed() {
        WordChanged x = new WordChanged();
        DUE.is("6 below", x.feed(-1), -1);
        DUE.is("6 above", x.feed(256), -1);
        for (int i = 0; i < 120; i++) DUE.is("6 feed", x.feed(i % 2 == 0 ? 0 : 255), i + 1);
        DUE.is("6 FULL", x.feed(49), -3);
        DUE.is("6 BAD ahead of FULL", x.feed(256), -1);
        DUE.is("6 count", x.count(1), 120);
        DUE.is("6 a fault at 0", x.law(), -100);
        DUE.is("6 empty then", x.count(1), 0);
        DUE.is("6 anew", x.feed(49), 1);
    }

    private static void fault(String text, int place) {
        DUE.is("7 law " + text, Camp.law(new WordChanged(), text), place < 0 ? 1 : -100 - place);
    }

    private static String times(String text, int n) {
        StringBuilder all = new StringBuilder();
        for (int i = 0; i < n; i++) all.append(text);
        return all.toString();
    }

    private static void promise7Law() {
        fault("", 0);
        fault("1", -1);
        fault("9999", -1);
        fault("12345", 4);
        fault("0000", -1);
        fault("x", 0);
        fault("1 ", 1);
        fault(" 1", 0);
        fault("1y", 1);
        fault("y1", 1);
        fault("1+", 2);
        fault("1;", 2);
        fault(";1", 0);
        fault("1;;1", 2);
        fault("1?2", -1);
        fault("1?2?3", 3);
        fault("1?", 2);
        fault("1?2;3?4;5", -1);
        fault("(1?2)", 2);
        fault("(1;2)", 2);
        fault("(1", 2);
        fault("1)", 1);
        fault("()", 1);
        fault("1<2<3", 3);
        fault("1<2=3", 3);
        fault("1<2&3>4|5=6", -1);
        fault("(1<2)<3", -1);
        fault("1<(2<3)", -1);
        fault("(1<2<3)", 4);
        fault("1<2?3<4", -1);
        fault("1<2;3<4", -1);
        fault("1--1", -1);
        fault("1---1", -1);
        fault("1+-!y", -1);
        fault("1++1", 2);
        fault("1**1", 2);
        fault("1||1", 2);
        fault("!", 1);
        fault("((((((1))))))", -1);
        fault("(((((((1)))))))", 6);
        fault("------1", -1);
        fault("-------1", 6);
        fault("!-!-!-y", -1);
        fault("!!!!!!!1", 6);
        fault("1?((((((1))))))", -1);
        fault("1?(((((((1", 8);
        fault(times("1;", 59) + "12", -1);
        fault("((((((!1", 6);
        fault("((((((1-1", 9);
        fault("(((((-(1", 6);
        fault("(((((-1)))))+-1", -1);
        fault("------1+------1", -1);
        fault("1-------1", -1);
        fault("1--------1", 8);
        fault("y*(n+c)-p%w/l", -1);
        fault(times("1+", 59) + "12", -1);
        fault(times("1+", 60), 120);
        fault(times("1+", 59) + "1(", 119);
        WordChanged x = Camp.four();
        DUE.is("7 a law", Camp.law(x, "5"), 1);
        DUE.is("7 it counts", x.mishears(10), 5);
        DUE.is("7 a fault", Camp.law(x, "7+"), -102);
        DUE.is("7 the former stays", x.mishears(10), 5);
        DUE.is("7 the tape is empty", x.count(1), 0);
        DUE.is("7 an empty tape", x.law(), -100);
        DUE.is("7 another law", Camp.law(x, "7"), 1);
        DUE.is("7 it counts now", x.mishears(10), 7);
    }

    private static void given(String text, int want) {
        WordChanged x = Camp.four();
        x.mend(2, 2, 8);
        x.mend(0, 9, 4);
        x.mend(4, 3, 5);
        x.mend(4, 4, 6);
        x.mend(6, 3, 9);
        DUE.is("8 law " + text, Camp.law(x, text), 1);
        DUE.is("8 mishears(23) by " + text, x.mishears(23), want);
        DUE.is("8 POST 0 by " + text, x.mishears(3), 0);
    }

    private static void promise8Mishears() {
        WordChanged none = new WordChanged();
        DUE.is("8 no posts", none.mishears(0), -1);
        WordChanged x = Camp.four();
        x.mend(1, 2, 6);
        x.mend(3, 2, 12);
        DUE.is("8 c and n less y", x.mishears(14), 7);
        DUE.is("8 held above", x.mishears(30) + x.mend(1, 3, 1) + x.mishears(36), 9 + 3 + 12);
        DUE.is("8 held below", x.mishears(20), 0);
        DUE.is("8 n 7", x.mishears(17), -1);
        DUE.is("8 n 7 of POST 0", x.mishears(7), -1);
        DUE.is("8 no post", x.mishears(40), -1);
        DUE.is("8 below", x.mishears(-1), -1);
        DUE.is("8 far above", x.mishears(Integer.MAX_VALUE), -1);
        given("y", 5);
        given("n", 3);
        given("c", 8);
        given("p", 2);
        given("w", 4);
        given("l", 4);
        given("13", 12);
        given("-1", 0);
        given("2+3*2", 8);
        given("(2+3)*2", 10);
        given("9-3-2", 4);
        given("9-(3-2)", 8);
        given("7/2", 3);
        given("-7/2+9", 6);
        given("-7%4+9", 6);
        given("5/0+1", 1);
        given("5%0+2", 2);
        given("!0+!5", 1);
        given("3|0", 1);
        given("0|0", 0);
        given("3&2", 1);
        given("3&0", 0);
        given("0&0|1", 1);
        given("1|0&0", 1);
        given("(1|0)&0", 0);
        given("2<3", 1);
        given("3<3", 0);
        given("3=3", 1);
        given("3>2", 1);
        given("3>3", 0);
        given("1+1=2", 1);
        given("-2*-3", 6);
        given("!y=0", 1);
        given("9999*9999*9999*9999>0", 1);
        given("9999*9999*30<0", 1);
        given("0?5;0?6;7", 7);
        given("0?5;1?6;7", 6);
        given("0?5;0?6", 0);
        given("5?6;1", 6);
        given("3;4", 3);
        given("c>7?11;n*2-y+l", 11);
        given("c>8?11;n*2-y+l", 5);
        given(times("1-1+", 29) + "9-5", 4);
        // The other way round, NEW longer than LIKE: how many letters, not which has more.
        WordChanged y = Camp.four();
        y.mend(1, 3, 9);
        Camp.law(y, "l");
        DUE.is("8 l with NEW longer", y.mishears(10), 6);
    }

    private static void drawnTexts() {
        Random random = new Random(12);
        String letters = "yncpwl0123456789+-*/%<=>|&!()?;";
        for (int run = 0; run < 20000; run++) {
            StringBuilder text = new StringBuilder();
            int length = 1 + random.nextInt(12);
            for (int i = 0; i < length; i++) {
                // The next byte is most often one with which a text goes on.
                for (int tries = 0; tries < 20; tries++) {
                    char c = letters.charAt(random.nextInt(letters.length()));
                    int fault = Model.fault(text.toString() + c);
                    if (fault < 0 || fault > i || random.nextInt(200) == 0) {
                        text.append(c);
                        break;
                    }
                }
            }
            WordChanged x = Camp.four();
            x.mend(2, 2, 8);
            x.mend(2, 3, 7);
            Model model = new Model();
            for (int i = 0; i < 4; i++) model.post(x.of(i, 0), x.of(i, 1));
            model.mend(2, 2, 8);
            model.mend(2, 3, 7);
            for (char c : text.toString().toCharArray()) model.feed(c);
            int want = model.law();
            DUE.is("7 law " + text, Camp.law(x, text.toString()), want);
            DUE.is("8 mishears by " + text, x.mishears(23), model.mishears(23));
        }
    }

    public static void main(String[] args) {
        promise6Feed();
        promise7Law();
        promise8Mishears();
        drawnTexts();
        DUE.end();
    }
}
