/** Promises 36 to 38: body, act, trace. */
public final class ActsTest {
    private static final Due DUE = new Due("acts");

    private static WordChanged all() {
        WordChanged x = new WordChanged();
        for (int k = 0; k < 8; k++) x.body(k);
        return x;
    }

    private static void promise36Body() {
        WordChanged x = new WordChanged();
        DUE.is("36 above", x.body(8), -1);
        DUE.is("36 below", x.body(-1), -1);
        for (int i = 0; i < 50; i++) DUE.is("36 body", x.body(i % 8), i);
        DUE.is("36 FULL", x.body(0), -3);
        DUE.is("36 BAD ahead of FULL", x.body(8), -1);
        DUE.is("36 count", x.count(3), 50);
        DUE.is("36 n is its number", x.act(48, 0, 100), 148);
    }

    private static void acts(int body, int act, int x, int want, int... trace) {
        WordChanged o = all();
        String name = "act(" + body + ", " + act + ", " + x + ")";
        DUE.is("37 " + name, o.act(body, act, x), want);
        DUE.is("45 ran in " + name, o.count(4), trace.length);
        for (int i = 0; i < trace.length; i++) DUE.is("38 trace(" + i + ") of " + name, o.trace(i), trace[i]);
        DUE.is("38 behind the last of " + name, o.trace(trace.length), -1);
        DUE.is("38 below", o.trace(-1), -1);
    }

    private static void promises37And38ActTrace() {
        acts(0, 0, 5, 5, 1);
        acts(0, 1, 5, 10, 10, 1);
        acts(0, 2, 5, 5, 11);
        acts(0, 3, 5, 9, 2, 10, 1, 11);
        acts(1, 0, 5, 9, 20, 1);
        acts(1, 1, 5, 18, 10, 20, 1);
        acts(1, 2, 5, 4, 11);
        acts(1, 3, 5, 18, 2, 10, 20, 1, 11);
        acts(2, 0, 5, 7, 1);
        acts(2, 1, 5, -14, 30, 10, 1);
        acts(2, 2, 5, 7, 11);
        acts(2, 3, 5, -17, 2, 30, 10, 1, 11);
        acts(3, 0, 5, 8, 1);
        acts(3, 1, 5, -18, 41, 30, 10, 1);
        acts(3, 2, 5, 18, 40, 11);
        acts(3, 3, 5, -24, 2, 41, 30, 10, 1, 40, 11);
        acts(4, 0, 5, 12, 20, 1);
        acts(4, 1, 5, 24, 10, 20, 1);
        acts(4, 2, 5, 1, 11);
        acts(4, 3, 5, 22, 50, 2, 10, 20, 1, 11);
        acts(5, 0, 5, 10, 1);
        acts(5, 1, 5, -22, 41, 30, 10, 1);
        acts(5, 2, 5, -7, 60, 40, 11, 1);
        acts(5, 3, 5, -26, 61, 2, 41, 30, 10, 1, 60, 40, 11, 1);
        acts(6, 0, 5, 22, 70, 1);
        acts(6, 1, 5, 44, 10, 70, 1);
        acts(6, 2, 5, 3, 11);
        acts(6, 3, 5, 37, 2, 10, 70, 1, 11);
        acts(7, 0, 5, 23, 81, 70, 1);
        acts(7, 1, 5, 51, 80, 10, 81, 70, 1, 11);
        acts(7, 2, 5, 2, 11);
        acts(7, 3, 5, 45, 2, 80, 10, 81, 70, 1, 11, 11);
        acts(1, 0, Integer.MAX_VALUE, Integer.MIN_VALUE + 3, 20, 1);
        acts(6, 0, Integer.MAX_VALUE, 10, 70, 1);
        WordChanged x = all();
        x.act(7, 3, 5);
        DUE.is("37 no such body", x.act(8, 0, 1), 0);
        DUE.is("38 no trace then", x.trace(0), -1);
        DUE.is("45 none ran", x.count(4), 0);
        x.act(7, 3, 5);
        DUE.is("37 no such act", x.act(0, 4, 1), 0);
        DUE.is("38 no trace then", x.trace(0), -1);
        DUE.is("37 act below", x.act(0, -1, 1), 0);
        DUE.is("37 body below", x.act(-1, 0, 1), 0);
        x.act(7, 3, 5);
        x.act(0, 0, 5);
        DUE.is("38 of the latest", x.trace(0), 1);
        DUE.is("38 of the latest alone", x.trace(1), -1);
        DUE.is("38 far", x.trace(24), -1);
    }

    public static void main(String[] args) {
        promise36Body();
        promises37And38ActTrace();
        DUE.end();
    }
}
