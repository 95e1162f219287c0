import java.util.function.Supplier;

/** Promises 6 to 8, each edge that the document names: feed, law, mishears. */
public final class LawEdgesTest {
    private static final Edges EDGES = new Edges("edges of the law");
    private static final int BAD = Edges.BAD, FULL = Edges.FULL;

    private static WordChanged fed(WordChanged x, String text) {
        for (char c : text.toCharArray()) x.feed(c);
        return x;
    }

    private static WordChanged fullTape() {
        return fed(Camp.rich(), "+1".repeat(59) + "-");
    }

    private static void aByteIs0To255() {
        EDGES.sentence(6, "A byte (0 .. 255) comes to THE TAPE: how many it has. BAD");
        for (int letter : new int[] {-1, 256, Integer.MIN_VALUE, Integer.MAX_VALUE}) {
            EDGES.refused("feed(" + letter + ")", Camp::rich, x -> x.feed(letter), BAD);
        }
        EDGES.is("feed(0)", WordChanged::new, x -> x.feed(0), 1);
        EDGES.is("feed(255)", Camp::rich, x -> x.feed(255), 2);
    }

    private static void theTapeHas120Bytes() {
        EDGES.sentence(6, "how many it has. FULL (120)");
        WordChanged x = new WordChanged();
        for (int i = 1; i <= 120; i++) EDGES.is("feed " + i, x.feed('1'), i);
        EDGES.is("count(1)", x.count(1), 120);
        EDGES.refused("feed 121", LawEdgesTest::fullTape, y -> y.feed('1'), FULL);
        EDGES.sentence(6, "of several the one named first: BAD, FULL");
        EDGES.refused("feed(256) on a full one", LawEdgesTest::fullTape, y -> y.feed(256), BAD);
        EDGES.refused("feed(-1) on a full one", LawEdgesTest::fullTape, y -> y.feed(-1), BAD);
    }

    private static void law(String text, int due) {
        String call = "law() of " + (text.length() > 30 ? text.length() + " bytes" : "'" + text + "'");
        EDGES.is(call, fed(new WordChanged(), text).law(), due);
    }

    private static void takes(String... texts) {
        for (String text : texts) law(text, 1);
    }

    private static void fault(String text, int place) {
        law(text, -100 - place);
    }

    private static void aTextHasAtMost120Bytes() {
        EDGES.sentence(7, "a TEXT by THE TAPE (at most 120 bytes)");
        takes("1+".repeat(59) + "10", "1;".repeat(59) + "10", "1?2;".repeat(29) + "3333");
        EDGES.sentence(8, "a TEXT by THE TAPE (at most 120 bytes)");
        gives("!0" + "+0".repeat(59), 1);
        gives("0?9;".repeat(29) + "!!-7", 1);
        EDGES.sentence(7, "-100 less its FAULT");
        fault("1+".repeat(59) + "1 ", 119);
        fault("1+".repeat(60), 120);
        fault("1", -101);
    }

    private static void theTapeIsEmptyThen() {
        EDGES.sentence(7, "THE TAPE is empty then");
        for (String text : new String[] {"5", "5+", "x", "1+".repeat(60)}) {
            WordChanged x = fed(new WordChanged(), text);
            x.law();
            EDGES.is("count(1) behind law() of " + text, x.count(1), 0);
            EDGES.is("feed behind it", x.feed('3'), 1);
            EDGES.is("law() behind it", x.law(), 1);
            EDGES.is("law() of an empty one", x.law(), -100);
        }
        EDGES.sentence(7, "THE TAPE becomes THE LAW");
        WordChanged x = Camp.four();
        Camp.law(x, "5");
        EDGES.is("mishears(10) by a law", x.mishears(10), 5);
        Camp.law(x, "7+");
        EDGES.is("mishears(10) behind a FAULT", x.mishears(10), 5);
        Camp.law(x, "7");
        EDGES.is("mishears(10) by the next law", x.mishears(10), 7);
        for (int time = 0; time < 2; time++) {
            Camp.law(x, "!0" + "+0".repeat(59));
            EDGES.is("mishears(10) by one of 120 bytes", x.mishears(10), 1);
        }
    }

    private static void linesAreOneOrMore() {
        EDGES.sentence(7, "LINES, one or more, parted by ;");
        fault("", 0);
        fault(";", 0);
        fault("1;", 2);
        fault("1;;2", 2);
        takes("1", "1;2");
        EDGES.sentence(7, "LINE: E, or E ? E");
        takes("1?2", "1?2;3", "1;2?3");
        fault("?1", 0);
        fault("1?", 2);
        fault("1??2", 2);
        fault("1?2?3", 3);
        fault("1?;2", 2);
        fault("(1?2)", 2);
    }

    private static void aComparisonHasTwoSides() {
        EDGES.sentence(7, "B = S, or S < S, S = S, S > S");
        takes("1<2", "1=2", "1>2", "1<2&3>4", "1<2|3=4", "(1<2)<3", "1<(2<3)", "1?2<3", "1<2?3", "1<2;3<4");
        for (String first : new String[] {"1<2", "1=2", "1>2"}) {
            for (String next : new String[] {"<3", "=3", ">3"}) fault(first + next, 3);
        }
        fault("<1", 0);
        fault("1<", 2);
        fault("1<<2", 2);
        fault("1<=2", 2);
    }

    private static void signsStandBetweenTwo() {
        for (String sign : new String[] {"|", "&", "+", "*", "/", "%"}) {
            EDGES.sentence(7, "E = A { | A }. A = B { & B }. S = P { + P, - P }. P = O { * O, / O, % O }: " + sign);
            takes("1" + sign + "2", "1" + sign + "2" + sign + "3");
            fault(sign + "1", 0);
            fault("1" + sign, 2);
            fault("1" + sign + sign + "2", 2);
        }
        EDGES.sentence(7, "O = - O; S = P - P");
        takes("-1", "1-1", "1--1", "1---1");
        fault("1-", 2);
        EDGES.sentence(7, "O = ! O, ( E )");
        takes("!1", "!!1", "(1)", "((1))", "(1|2&3<4+5*6)");
        fault("1!", 1);
        fault("!", 1);
        fault("()", 1);
        fault("(1", 2);
        fault("1)", 1);
        fault("(1))", 3);
        fault("1(2)", 1);
    }

    private static void aNumberHasFourDigits() {
        EDGES.sentence(7, "a number (1 to 4 digits)");
        takes("0", "00", "000", "0000", "9999", "1234+1234");
        fault("12345", 4);
        fault("00000", 4);
        fault("1+12345", 6);
    }

    private static void noOtherByteGoesOn() {
        EDGES.sentence(7, "FAULT: the first byte with which no TEXT goes on; the length, if it ends too early");
        for (int letter = 0; letter < 256; letter++) {
            boolean whole = letter < 128 && "0123456789yncpwl".indexOf(letter) >= 0;
            boolean begins = letter < 128 && "(!-".indexOf(letter) >= 0;
            EDGES.is("byte " + letter + " alone", lawOf(letter), whole ? 1 : begins ? -101 : -100);
            boolean digit = letter >= '0' && letter <= '9';
            boolean joins = letter < 128 && "|&<=>+-*/%?;".indexOf(letter) >= 0;
            EDGES.is("byte " + letter + " behind a 1", lawOf('1', letter), digit ? 1 : joins ? -102 : -101);
            EDGES.is("byte " + letter + " behind a y", lawOf('y', letter), joins ? -102 : -101);
            boolean goesOn = whole || begins;
            EDGES.is("byte " + letter + " behind 1+", lawOf('1', '+', letter), whole ? 1 : goesOn ? -103 : -102);
            boolean closes = letter == ')';
            boolean staysOpen = joins && letter != '?' && letter != ';';
            EDGES.is("byte " + letter + " behind (y", lawOf('(', 'y', letter), closes ? 1 : staysOpen ? -103 : -102);
        }
    }

    private static int lawOf(int... letters) {
        WordChanged x = new WordChanged();
        for (int letter : letters) x.feed(letter);
        return x.law();
    }

    private static void sixAreOpenAtOnce() {
        EDGES.sentence(7, "At most 6 of ( ! - ahead of an O are open at once");
        takes("((((((1))))))", "!!!!!!1", "------1", "(!-(!-1))", "-(-(-(1)))");
        fault("(((((((1)))))))", 6);
        fault("!!!!!!!1", 6);
        fault("-------1", 6);
        fault("((((((!1", 6);
        fault("((((((-1", 6);
        fault("!!!!!!(1", 6);
        fault("------!1", 6);
        fault("(!-(!-(1", 6);
        fault("1?(((((((1", 8);
        fault("1;(((((((1", 8);
        EDGES.sentence(7, "open at once: those that are closed are none");
        takes("((((((1))))))+((((((1))))))", "!!!!!!1+!!!!!!1", "------1-------1", "(((((-1)+-1)+-1)))",
            "((((((1)))))+(2))", "1?((((((1))))));((((((1))))))", "((((((1-1-1-1))))))");
        fault("(((((-1+--1", 9);
        fault("((((((1)+((", 10);
        fault("1--------1", 8);
        fault("((((((1)+(1", 11);
    }

    private static void postAndToldAreHeldWithin() {
        EDGES.sentence(8, "pn: 10 times the POST, and n 0 .. 6. BAD");
        for (int pn : new int[] {-1, -10, 7, 8, 9, 17, 18, 19, 37, 38, 39, Integer.MIN_VALUE, Integer.MAX_VALUE}) {
            EDGES.refused("mishears(" + pn + ")", Camp::rich, x -> x.mishears(pn), BAD);
        }
        for (int pn : new int[] {40, 46, 50, 60, 70, 100}) {
            EDGES.refused("mishears(" + pn + ") with four POSTS", Camp::rich, x -> x.mishears(pn), BAD);
        }
        EDGES.refused("mishears(70) with seven POSTS", Camp::full, x -> x.mishears(70), BAD);
        EDGES.refused("mishears(0) with no POSTS", WordChanged::new, x -> x.mishears(0), BAD);
        EDGES.is("mishears(10)", Camp::rich, x -> x.mishears(10), 4);
        EDGES.is("mishears(16)", Camp::rich, x -> x.mishears(16), 10);
        EDGES.is("mishears(30)", Camp::rich, x -> x.mishears(30), 7);
        EDGES.is("mishears(36)", Camp::rich, x -> x.mishears(36), 12);
        EDGES.is("mishears(66) with seven POSTS", Camp::full, x -> x.mishears(66), 4);
    }

    private static void post0NeverMishears() {
        EDGES.sentence(8, "POST 0: 0; POST 0 never does");
        Supplier<WordChanged> all = () -> {
            WordChanged x = Camp.four();
            x.mend(0, 2, 12);
            Camp.law(x, "12");
            return x;
        };
        for (int n = 0; n < 7; n++) {
            int pn = n;
            EDGES.is("mishears(" + n + ")", all, x -> x.mishears(pn), 0);
            EDGES.is("mishears(" + (10 + n) + ")", all, x -> x.mishears(10 + pn), 12);
        }
        WordChanged x = Camp.four();
        x.mend(0, 2, 12);
        EDGES.is("mishears(6) without a text", x.mishears(6), 0);
    }

    private static void gives(String text, int due) {
        WordChanged x = Camp.four();
        EDGES.is("law() of '" + text + "'", Camp.law(x, text), 1);
        EDGES.is("mishears(13) by '" + text + "'", x.mishears(13), due);
    }

    private static void itIsHeldWithin0To12() {
        EDGES.sentence(8, "held within 0 .. 12");
        gives("0", 0);
        gives("-1", 0);
        gives("-9999", 0);
        gives("11", 11);
        gives("12", 12);
        gives("13", 12);
        gives("9999", 12);
        gives("1?13", 12);
        gives("1?-1", 0);
        EDGES.sentence(8, "Without a text: c and n less y");
        WordChanged x = Camp.four();
        EDGES.is("c 0, n 0, y 3", x.mishears(10), 0);
        EDGES.is("c 0, n 3, y 3", x.mishears(13), 0);
        EDGES.is("c 0, n 4, y 3", x.mishears(14), 1);
        x.mend(1, 2, 12);
        EDGES.is("c 12, n 2, y 3", x.mishears(12), 11);
        EDGES.is("c 12, n 3, y 3", x.mishears(13), 12);
        EDGES.is("c 12, n 4, y 3", x.mishears(14), 12);
        x.mend(1, 3, 9);
        EDGES.is("c 12, n 4, y 9", x.mishears(14), 7);
        EDGES.is("c 12, n 0, y 9", x.mishears(10), 3);
    }

    private static void intsWrap() {
        EDGES.sentence(8, "Ints that wrap");
        String most = "(8192*8192*32-1)";
        gives("8192*8192*32<0", 1);
        gives(most + ">0", 1);
        gives(most + "+1<0", 1);
        gives("-8192*8192*32-1>0", 1);
        gives("8192*8192*64", 0);
        gives("8192*8192*64+5", 5);
        gives("-(8192*8192*32)<0", 1);
        gives("8192*8192*32/-1<0", 1);
        gives("8192*8192*32%-1+4", 4);
    }

    private static void dividedTowards0() {
        EDGES.sentence(8, "/ and % toward 0, by 0 they give 0");
        gives("7/2", 3);
        gives("-7/2+9", 6);
        gives("7/-2+9", 6);
        gives("-7/-2", 3);
        gives("1/2+9", 9);
        gives("-1/2+9", 9);
        gives("7%2+9", 10);
        gives("-7%2+9", 8);
        gives("7%-2+9", 10);
        gives("-7%-2+9", 8);
        gives("7/0+3", 3);
        gives("7%0+3", 3);
        gives("0/0+3", 3);
        gives("0%0+3", 3);
        gives("7/(1-1)+7%(1-1)+3", 3);
    }

    private static void signsGive1Or0() {
        EDGES.sentence(8, "| & < = > ! give 1, 0");
        for (String one : new String[] {"5|0", "0|5", "5|5", "-5|0", "0|-5", "5&5", "-5&5", "5&-5", "4<5", "-5<-4",
                "5=5", "-5=0-5", "5>4", "-4>-5", "!0", "!!5", "!!-5", "0|0|5", "5&5&5"}) {
            gives(one, 1);
        }
        for (String none : new String[] {"0|0", "5&0", "0&5", "0&0", "5<5", "5<4", "5=4", "-5=5", "5>5", "4>5", "!5",
                "!-5", "!1", "5&5&0"}) {
            gives("(" + none + ")+3", 3);
        }
    }

    private static void theFirstLineThatCounts() {
        EDGES.sentence(8, "The first LINE without a first E, or whose first E is not 0, counts; none: 0");
        gives("0?5", 0);
        gives("0?5;0?6", 0);
        gives("0?5;0?6;7", 7);
        gives("0?5;6;7", 6);
        gives("0;7", 0);
        gives("0;1?7", 0);
        gives("1?0;7", 0);
        gives("1?5;7", 5);
        gives("-1?5;7", 5);
        gives("2?5;7", 5);
        gives("0?5;-1?6;7", 6);
        EDGES.sentence(8, "LINE: E ? E, each of them E = A { | A }");
        gives("0|1?0|5;7", 1);
        gives("0|0?5;7", 7);
        gives("1&0?5;7", 7);
        gives("1?0&5;7", 0);
        gives("2<1?5;7", 7);
        gives("1?2>1;7", 1);
    }

    private static void numbersThatNamesTell() {
        EDGES.sentence(8, "l how many letters more or less it is than LIKE (LONG of both)");
        WordChanged x = Camp.four();
        Camp.law(x, "l");
        EDGES.is("3 and 3 letters", x.mishears(10), 0);
        x.mend(1, 3, 9);
        EDGES.is("9 and 3 letters", x.mishears(10), 6);
        x.mend(1, 3, 1);
        x.mend(2, 3, 9);
        EDGES.is("1 and 9 letters", x.mishears(10), 8);
        x.mend(1, 4, 1);
        EDGES.is("its own LIKE", x.mishears(10), 0);
        EDGES.sentence(8, "n how many POSTS were told ahead of it, p the POST, w the WORD, c COLD, y LONG");
        x = Camp.full();
        x.law();
        Camp.law(x, "n");
        EDGES.is("n 0", x.mishears(60), 0);
        EDGES.is("n 6", x.mishears(66), 6);
        Camp.law(x, "p");
        EDGES.is("p 1", x.mishears(16), 1);
        EDGES.is("p 6", x.mishears(60), 6);
        EDGES.is("p 6, n 6", x.mishears(66), 6);
        EDGES.is("p 5, n 6", x.mishears(56), 5);
        Camp.law(x, "w");
        x.mend(0, 9, 0);
        EDGES.is("w 0", x.mishears(66), 0);
        x.mend(0, 9, 9);
        EDGES.is("w 9", x.mishears(60), 9);
        Camp.law(x, "c");
        x.mend(6, 2, 12);
        EDGES.is("c 12", x.mishears(60), 12);
        x.mend(6, 2, 0);
        EDGES.is("c 0", x.mishears(66), 0);
        Camp.law(x, "y");
        x.mend(9, 3, 9);
        EDGES.is("y 9", x.mishears(60), 9);
        x.mend(9, 3, 1);
        EDGES.is("y 1", x.mishears(66), 1);
    }

    public static void main(String[] args) {
        aByteIs0To255();
        theTapeHas120Bytes();
        aTextHasAtMost120Bytes();
        theTapeIsEmptyThen();
        linesAreOneOrMore();
        aComparisonHasTwoSides();
        signsStandBetweenTwo();
        aNumberHasFourDigits();
        noOtherByteGoesOn();
        sixAreOpenAtOnce();
        postAndToldAreHeldWithin();
        post0NeverMishears();
        itIsHeldWithin0To12();
        intsWrap();
        dividedTowards0();
        signsGive1Or0();
        theFirstLineThatCounts();
        numbersThatNamesTell();
        EDGES.end();
    }
}
