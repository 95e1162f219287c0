/** Promises 27 to 35: change, tell, stay, ask, led, image, back, undo, redo. */
public final class DeedTest {
    private static final Due DUE = new Due("deed");

    private static void promise27Change() {
        WordChanged x = new WordChanged();
        DUE.is("27 no posts", x.change(1), -5);
        DUE.is("27 BAD ahead of STATE", x.change(10), -1);
        DUE.is("27 below", x.change(-1), -1);
        DUE.is("27 nothing was led", x.led(0), 0);
        x = Camp.four();
        DUE.is("27 from OLD", x.change(9), 0);
        DUE.is("27 from that", x.change(3), 9);
        DUE.is("27 POST 0 has it", x.of(0, 12), 3);
        DUE.is("27 the others don't", x.of(1, 12), 0);
        DUE.is("27 NEW is another thing", x.of(0, 9), 1);
        DUE.is("27 changes", x.led(0), 2);
        DUE.is("27 no change that is undone", x.count(2), 0);
    }

    private static void promise28Tell() {
        WordChanged x = Camp.four();
        DUE.is("28 POST 0", x.tell(0), -1);
        DUE.is("28 no post", x.tell(4), -1);
        DUE.is("28 below", x.tell(-1), -1);
        x.change(5);
        DUE.is("28 what it had", x.tell(2), 0);
        DUE.is("28 has", x.of(2, 12), 5);
        DUE.is("28 told again", x.tell(2), 5);
        DUE.is("28 what it had is no more", x.ask(2, 0), 0);
        DUE.is("28 tellings", x.led(1), 2);
        x.mend(3, 2, 12);
        Camp.law(x, "12");
        x.tell(3);
        DUE.is("28 heard right", x.of(3, 12), 5);
    }

    private static void promise29Stay() {
        WordChanged x = new WordChanged();
        DUE.is("29 0", x.stay(0), -1);
        DUE.is("29 1000", x.stay(1000), -1);
        DUE.is("29 below", x.stay(Integer.MIN_VALUE), -1);
        for (int i = 1; i <= 10; i++) DUE.is("29 stay", x.stay(999), 999 * i);
        DUE.is("29 too much", x.stay(10), -5);
        DUE.is("29 BAD ahead of STATE", x.stay(1000), -1);
        DUE.is("29 just", x.stay(9), 9999);
        DUE.is("29 no more", x.stay(1), -5);
        DUE.is("29 NOW", x.led(4), 9999);
    }

    private static void promise30Ask() {
        WordChanged x = Camp.four();
        DUE.is("30 no post", x.ask(4, 0), -1);
        DUE.is("30 post below", x.ask(-1, 0), -1);
        DUE.is("30 no word", x.ask(0, 10), -1);
        DUE.is("30 word below", x.ask(0, -1), -1);
        DUE.is("30 none was asked", x.led(2), 0);
        DUE.is("30 OLD", x.ask(1, 0), 1);
        DUE.is("30 another", x.ask(1, 1), 0);
        x.change(4);
        x.stay(7);
        x.tell(1);
        x.stay(59);
        DUE.is("30 what it had, within HOLDS", x.ask(1, 0), 1);
        DUE.is("30 what it has", x.ask(1, 4), 1);
        DUE.is("30 POST 0 no more", x.ask(0, 0), 0);
        x.stay(1);
        DUE.is("30 what it had, over", x.ask(1, 0), 0);
        DUE.is("30 one that was not told", x.ask(2, 4), 0);
        x.mend(0, 11, 61);
        DUE.is("30 by HOLDS of now", x.ask(1, 0), 1);
        x.mend(0, 8, 9);
        DUE.is("30 what it has is no longer OLD", x.ask(2, 9), 0);
        DUE.is("30 it has what was OLD", x.ask(2, 0), 1);
        x.post(1, 1);
        DUE.is("30 a new one has OLD", x.ask(4, 9), 1);
    }

    private static void promise31Led() {
        WordChanged x = Camp.four();
        x.change(4);
        x.tell(1);
        x.tell(2);
        x.ask(1, 4);
        x.ask(1, 7);
        x.ask(2, 4);
        x.ask(2, 8);
        x.stay(5);
        int[] dues = {1, 2, 4, 2, 5};
        for (int i = 0; i < 5; i++) DUE.is("31 led(" + i + ")", x.led(i), dues[i]);
        DUE.is("31 above", x.led(5), -1);
        DUE.is("31 below", x.led(-1), -1);
    }

    private static void promises32And33Image() {
        WordChanged x = Camp.four();
        DUE.is("33 none", x.back(), -5);
        x.change(4);
        x.stay(10);
        x.tell(1);
        x.ask(1, 4);
        DUE.is("32 image", x.image(), 10);
        x.change(6);
        x.stay(100);
        x.tell(1);
        x.tell(2);
        x.ask(2, 9);
        x.mend(0, 8, 8);
        x.post(7, 7);
        x.mend(0, 8, 2);
        DUE.is("33 back", x.back(), 10);
        int[] has = {4, 4, 0, 0, 2};
        for (int p = 0; p < 5; p++) DUE.is("33 has, POST " + p, x.of(p, 12), has[p]);
        int[] dues = {1, 1, 1, 1, 10};
        for (int i = 0; i < 5; i++) DUE.is("33 led(" + i + ")", x.led(i), dues[i]);
        DUE.is("33 what it had", x.ask(1, 0), 1);
        DUE.is("33 one that came since had nothing", x.ask(4, 8), 0);
        DUE.is("33 numbers stay", x.of(0, 8), 2);
        DUE.is("33 posts stay", x.count(0), 5);
        x.stay(59);
        DUE.is("33 since when", x.ask(1, 0), 1);
        x.stay(1);
        DUE.is("33 since when, over", x.ask(1, 0), 0);
        DUE.is("33 once more", x.back(), 10);
        x.stay(3);
        DUE.is("32 another image", x.image(), 13);
        x.stay(3);
        DUE.is("33 back to that", x.back(), 13);
    }

    private static void imageOfNoPosts() {
        WordChanged x = new WordChanged();
        x.stay(4);
        DUE.is("32 no posts", x.image(), 4);
        x.stay(4);
        x.post(1, 1);
        x.change(7);
        x.mend(0, 8, 3);
        DUE.is("33 no posts", x.back(), 4);
        DUE.is("33 POST 0 came since", x.of(0, 12), 3);
        DUE.is("33 it had nothing", x.ask(0, 0), 0);
    }

    private static void promises34And35UndoRedo() {
        WordChanged x = Camp.four();
        DUE.is("34 none", x.undo(), -5);
        DUE.is("35 none", x.redo(), -5);
        x.mend(1, 0, 50);
        x.mend(0, 11, 5);
        x.mend(0, 11, 5);
        x.mend(2, 7, 3);
        DUE.is("34 the same number is none", x.count(2), 3);
        DUE.is("34 undo", x.undo(), 2);
        DUE.is("34 undone", x.of(2, 7), 0);
        DUE.is("34 undo", x.undo(), 1);
        DUE.is("34 undone", x.of(0, 11), 60);
        DUE.is("35 redo", x.redo(), 1);
        DUE.is("35 done again", x.of(0, 11), 5);
        DUE.is("35 the same number", x.mend(0, 11, 5), 5);
        x.change(4);
        x.post(1, 1);
        DUE.is("35 none came behind", x.redo(), 0);
        DUE.is("35 done again", x.of(2, 7), 3);
        DUE.is("35 no more", x.redo(), -5);
        x.undo();
        x.mend(0, 10, 9);
        DUE.is("35 another came behind", x.redo(), -5);
        DUE.is("34 undo all", x.undo() * 100 + x.undo() * 10 + x.undo(), 210);
        DUE.is("34 as at first", x.of(1, 0), 10);
        DUE.is("34 no more", x.undo(), -5);
        DUE.is("34 deeds are none", x.of(0, 12), 4);
        for (int i = 1; i <= 45; i++) x.mend(0, 10, i);
        DUE.is("34 40 are kept", x.count(2), 40);
        for (int i = 39; i >= 0; i--) DUE.is("34 undo", x.undo(), i);
        DUE.is("34 the oldest are gone", x.undo(), -5);
        DUE.is("34 so far", x.of(0, 10), 5);
        for (int i = 39; i >= 0; i--) DUE.is("35 redo", x.redo(), i);
        DUE.is("35 all again", x.of(0, 10), 45);
        x.undo();
        x.mend(0, 10, 777);
        DUE.is("34 full again", x.count(2), 40);
        x.undo();
        DUE.is("34 in the round", x.of(0, 10), 44);
    }

    public static void main(String[] args) {
        promise27Change();
        promise28Tell();
        promise29Stay();
        promise30Ask();
        promise31Led();
        promises32And33Image();
        imageOfNoPosts();
        promises34And35UndoRedo();
        DUE.end();
    }
}
