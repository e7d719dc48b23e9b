/** Promises 8 to 13: days, rest, go, bag, peg, undo; and 38, 39: the image. */
public final class ActsTest {
    private static final Due DUE = new Due("ActsTest");

    private static long flag(boolean is) {
        return is ? 1 : 0;
    }

    private static void days() {
        BlueBag x = new BlueBag();
        DUE.is("P8 days(1)", 1, () -> x.days(1));
        DUE.is("P8 days(20)", 21, () -> x.days(20));
        DUE.is("P8 days(0)", -1, () -> x.days(0));
        DUE.is("P8 days(21)", -1, () -> x.days(21));
        DUE.is("P8 days(-1)", -1, () -> x.days(-1));
        DUE.is("P8 days(greatest)", -1, () -> x.days(Integer.MAX_VALUE));
        DUE.is("P8 days(least)", -1, () -> x.days(Integer.MIN_VALUE));
        DUE.is("P8 STATUS 1", 5, () -> x.count(15));
        DUE.is("P8 the DAY", 21, () -> x.count(3));
        for (int i = 0; i < 48; i++) x.days(20);
        DUE.is("P8 the DAY", 981, () -> x.count(3));
        DUE.is("P8 days(19) would be 1000", -1, () -> x.days(19));
        DUE.is("P8 days(18)", 999, () -> x.days(18));
        DUE.is("P8 days(1) would be 1000", -1, () -> x.days(1));
        DUE.is("P14 then(0, 40) looks beyond 999", 0, () -> x.then(0, 40));
        DUE.is("P8 STATUS 1", 7, () -> x.count(15));
        BlueBag y = Due.told("old 9 0;fades blue/5;");
        y.days(3);
        BlueBag z = Due.told("old 9 0;fades blue/5;");
        for (int i = 0; i < 3; i++) z.days(1);
        DUE.like("P8 three days at once, or one by one", Due.blues(z), Due.blues(y));
    }

    private static void rest() {
        BlueBag x = Due.told("girl 5 4;girl 0 0;");
        DUE.is("P9 not resting already", 0, () -> flag(x.rest(0, false)));
        DUE.is("P9 rests", 1, () -> flag(x.rest(1, true)));
        DUE.is("P9 rests already", 0, () -> flag(x.rest(1, true)));
        DUE.is("P9 STATUS 1", 2, () -> x.count(15));
        DUE.is("P5 RESTING", 2, () -> x.count(9));
        DUE.is("P9 no more", 1, () -> flag(x.rest(1, false)));
        DUE.is("P5 RESTING", 0, () -> x.count(9));
        DUE.is("P5 ACTS", 2, () -> x.count(11));
        DUE.noSuch("P9 no such girl", () -> flag(x.rest(2, true)));
        DUE.noSuch("P9 no such girl", () -> flag(x.rest(-1, true)));
        DUE.is("P9 an exception is not counted", 2, () -> x.count(15));
    }

    private static void go() {
        BlueBag x = Due.told("girl 5 4;girl 0 0;");
        DUE.is("P10 where she was", 4, () -> x.go(0, 8));
        DUE.is("P10 she is there", -1, () -> x.go(0, 8));
        DUE.is("P7 her CELL", 8, () -> x.girl(0, 1));
        DUE.is("P10 to another girl's cell", 0, () -> x.go(1, 8));
        DUE.is("P10 from cell 8", 8, () -> x.go(1, 0));
        DUE.is("P10 STATUS 1", 1, () -> x.count(15));
        DUE.noSuch("P10 no such girl", () -> x.go(2, 0));
        DUE.noSuch("P10 no such cell", () -> x.go(0, 9));
        DUE.noSuch("P10 no such cell", () -> x.go(0, -1));
        DUE.is("P10 an exception is not counted", 1, () -> x.count(15));
        x.days(1);
        DUE.like("P10 she swishes there", "1,0,0,0,0,4,0,4,9", Due.blues(x));
    }

    private static void bag() {
        BlueBag x = Due.told("knobs 40;");
        DUE.is("P11 bag(1)", 41, () -> x.bag(1));
        DUE.is("P11 bag(50)", 91, () -> x.bag(50));
        DUE.is("P11 bag(50), 99 at most", 99, () -> x.bag(50));
        DUE.is("P11 bag(0)", -1, () -> x.bag(0));
        DUE.is("P11 bag(51)", -1, () -> x.bag(51));
        DUE.is("P11 bag(-1)", -1, () -> x.bag(-1));
        DUE.is("P11 STATUS 1", 3, () -> x.count(15));
        DUE.is("P11 an act where all is as it was", 99, () -> x.bag(1));
        DUE.is("P5 ACTS", 4, () -> x.count(11));
        DUE.is("P13 undo()", 3, x::undo);
        DUE.is("P5 KNOBS", 99, () -> x.count(4));
        DUE.is("P13 undo()", 2, x::undo);
        DUE.is("P5 KNOBS", 91, () -> x.count(4));
    }

    private static void peg() {
        BlueBag x = Due.told("blue 4 30;blue 3 7;peg 0;");
        DUE.is("P12 no peg already", -1, () -> x.peg(4, false));
        DUE.is("P12 a peg", 30, () -> x.peg(4, true));
        DUE.is("P12 a peg already", -1, () -> x.peg(4, true));
        DUE.is("P6 BLUE is 0", 0, () -> x.cell(4, 0));
        DUE.is("P5 PEGS", 17, () -> x.count(8));
        DUE.is("P12 none any more", 0, () -> x.peg(4, false));
        DUE.is("P6 BLUE stays 0", 0, () -> x.cell(4, 0));
        DUE.is("P12 the text's peg", 0, () -> x.peg(0, false));
        DUE.is("P5 PEGS", 0, () -> x.count(8));
        DUE.is("P12 STATUS 1", 2, () -> x.count(15));
        DUE.noSuch("P12 no such cell", () -> x.peg(9, true));
        DUE.noSuch("P12 no such cell", () -> x.peg(-1, false));
        x.undo();
        x.undo();
        DUE.is("P13 the peg, too", 0, x::undo);
        DUE.is("P6 BLUE is back", 30, () -> x.cell(4, 0));
    }

    private static void undo() {
        BlueBag x = Due.told("girl 5 4;knobs 9;bound 5;");
        DUE.is("P13 undo() of nothing", -1, x::undo);
        DUE.is("P13 is not counted", 0, () -> x.count(15));
        x.days(2);
        x.rest(0, true);
        x.go(0, 1);
        x.bag(3);
        x.peg(4, true);
        x.days(1);
        DUE.is("P5 ACTS", 6, () -> x.count(11));
        DUE.is("P13 the day is undone", 5, x::undo);
        DUE.is("P5 the DAY", 2, () -> x.count(3));
        DUE.is("P13 the peg is undone", 4, x::undo);
        DUE.is("P5 PEGS", 0, () -> x.count(8));
        DUE.is("P13 the knobs are undone", 3, x::undo);
        DUE.is("P5 KNOBS", 7, () -> x.count(4));
        DUE.is("P13 the going is undone", 2, x::undo);
        DUE.is("P7 her CELL", 4, () -> x.girl(0, 1));
        DUE.is("P13 the rest is undone", 1, x::undo);
        DUE.is("P5 RESTING", 0, () -> x.count(9));
        DUE.is("P5 MARTINS", 10, () -> x.count(7));
        DUE.is("P13 two days are undone", 0, x::undo);
        DUE.is("P5 KNOBS", 9, () -> x.count(4));
        DUE.is("P5 MARTINS", 0, () -> x.count(7));
        DUE.is("P5 BLUE", 0, () -> x.count(10));
        DUE.is("P13 undo() of nothing", -1, x::undo);
        BlueBag z = Due.told("peg 3 5;girl 1 1;girl 2 2;");
        z.rest(1, true);
        z.rest(0, true);
        z.peg(3, false);
        z.go(0, 7);
        z.undo();
        DUE.is("P13 the other pegs stay", 1 << 5, () -> z.count(8));
        z.undo();
        DUE.is("P13 the peg is back", 1 << 3 | 1 << 5, () -> z.count(8));
        z.undo();
        DUE.is("P13 the other girl rests still", 2, () -> z.count(9));
        DUE.is("P13 the other girl's cell", 2, () -> z.girl(1, 1));
        BlueBag y = new BlueBag();
        for (int i = 0; i < 40; i++) y.days(1);
        DUE.is("P5 40 ACTS", 40, () -> y.count(11));
        y.days(20);
        y.bag(51);
        DUE.is("P5 40 ACTS at most", 40, () -> y.count(11));
        for (int i = 39; i >= 0; i--) {
            int left = i;
            DUE.is("P13 undo() to " + left, left, y::undo);
            DUE.is("P13 the DAY", left + 1, () -> y.count(3));
        }
        DUE.is("P13 the first act is kept no more", -1, y::undo);
    }

    private static void image() {
        BlueBag x = Due.told("girl 5 4;knobs 9;bound 5;");
        DUE.is("P39 no image", 0, () -> flag(x.restore()));
        x.days(1);
        x.days(0);
        x.see(4, 0, 9);
        x.see(4, 0, 100);
        x.image();
        x.days(2);
        x.rest(0, true);
        x.go(0, 0);
        x.peg(4, true);
        x.bag(9);
        x.bag(0);
        x.forget();
        x.see(4, 0, 101);
        Due.feed(x, "x");
        x.coast(1);
        Due.feed(x, "girl");
        DUE.is("P39 restore()", 1, () -> flag(x.restore()));
        int[] want = {9, 3, 1, 1, 8, 2, 5, 5, 0, 0, 25, 1, 1, 20, 0, 1, 1};
        for (int what = 0; what < want.length; what++) {
            int w = what;
            DUE.is("P39 count(" + w + ") as in the image, but the tape's", want[w], () -> x.count(w));
        }
        DUE.is("P39 her CELL", 4, () -> x.girl(0, 1));
        DUE.is("P39 what is SEEN", 1, () -> x.skilled(2));
        DUE.is("P39 the acts are the image's", 0, x::undo);
        DUE.is("P39 undone", 0, () -> x.count(10));
        DUE.is("P39 the image is still there", 1, () -> flag(x.restore()));
        DUE.is("P39 BLUE", 25, () -> x.count(10));
        x.forget();
        x.see(0, 3, 77);
        x.bag(1);
        x.bag(2);
        DUE.is("P33 not so", 0, () -> x.skilled(2));
        DUE.is("P39 restore()", 1, () -> flag(x.restore()));
        DUE.is("P39 SEEN is the image's, cell, days and BLUE", 1, () -> x.skilled(2));
        DUE.is("P39 the act is the image's", 0, x::undo);
        DUE.is("P39 undone to ahead of the image", 9, () -> x.count(4));
        DUE.is("P39 undone to ahead of the image", 0, () -> x.count(3));
        x.restore();
        x.days(1);
        x.image();
        x.days(1);
        DUE.is("P38 in place of another one", 1, () -> flag(x.restore()));
        DUE.is("P38 the DAY", 2, () -> x.count(3));
    }

    public static void main(String[] args) {
        days();
        rest();
        go();
        bag();
        peg();
        undo();
        image();
        DUE.end();
    }
}
