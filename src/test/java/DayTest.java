/** Promise 1, promises 5 to 8 and how a day goes: swishing, pegs, noon, night, martins. */
public final class DayTest {
    private static final Due DUE = new Due("DayTest");

    private static void behind(int days, String want, String text) {
        BlueBag x = Due.told(text);
        x.days(days);
        DUE.like("blue behind " + days + " days of: " + text, want, Due.blues(x));
    }

    private static void newObject() {
        BlueBag x = new BlueBag();
        int[] want = {9, 3, 0, 0, 20, 2, 60, 0, 0, 0, 0, 0, 0, 0, 0, 0, 0};
        for (int what = 0; what < want.length; what++) {
            int w = what;
            DUE.is("P1 count(" + w + ")", want[w], () -> x.count(w));
        }
        DUE.noSuch("P5 count(-1)", () -> x.count(-1));
        DUE.noSuch("P5 count(17)", () -> x.count(17));
        DUE.like("P1 blue", "0,0,0,0,0,0,0,0,0", Due.blues(x));
        DUE.noSuch("P1 girl(0, 0)", () -> x.girl(0, 0));
        DUE.is("P1 undo()", -1, x::undo);
        DUE.is("P1 restore()", 0, () -> x.restore() ? 1 : 0);
        DUE.is("P1 NONE", -1, () -> BlueBag.NONE);
    }

    private static void counts() {
        BlueBag x = Due.told("sky 4 2;blue 3 9;blue 7 4;peg 1 6;girl 3 7;old 2 7;girl 1 0;knobs 11;rinse 3;bound 9;");
        Due.feed(x, "abc");
        x.rest(1, true);
        x.bag(0);
        x.see(0, 0, 0);
        x.see(0, 21, 0);
        int[] want = {8, 4, 3, 0, 11, 3, 9, 0, 1 << 1 | 1 << 6, 2, 13, 1, 1, 20, 0, 1, 1};
        for (int what = 0; what < want.length; what++) {
            int w = what;
            DUE.is("P5 count(" + w + ")", want[w], () -> x.count(w));
        }
        DUE.is("P6 BLUE", 9, () -> x.cell(3, 0));
        DUE.is("P6 BLUE of the last cell", 4, () -> x.cell(7, 0));
        DUE.is("P6 beside a corner", 1 << 1 | 1 << 4, () -> x.cell(0, 1));
        DUE.is("P6 beside the end of a row", 1 << 2 | 1 << 7, () -> x.cell(3, 1));
        DUE.is("P6 beside the start of a row", 1 << 0 | 1 << 5, () -> x.cell(4, 1));
        DUE.is("P6 beside within a row", 1 << 1 | 1 << 4 | 1 << 6, () -> x.cell(5, 1));
        DUE.is("P6 girls at a cell", 3, () -> x.cell(7, 2));
        DUE.is("P6 no girl at a cell", 0, () -> x.cell(1, 2));
        DUE.is("P6 the third girl", 4, () -> x.cell(0, 2));
        DUE.is("P6 a patch by 0", 0b01110111, () -> x.cell(0, 3));
        DUE.is("P6 a patch by 0, not by 1", 1, () -> Due.told("sky 2 1;blue 0 1;").cell(0, 3));
        DUE.is("P6 a patch of one", 1 << 7, () -> x.cell(7, 3));
        DUE.noSuch("P6 cell(-1, 0)", () -> x.cell(-1, 0));
        DUE.noSuch("P6 cell(8, 0)", () -> x.cell(8, 0));
        DUE.noSuch("P6 cell(0, -1)", () -> x.cell(0, -1));
        DUE.noSuch("P6 cell(0, 4)", () -> x.cell(0, 4));
        DUE.is("P7 SKILL", 2, () -> x.girl(1, 0));
        DUE.is("P7 her CELL", 7, () -> x.girl(1, 1));
        DUE.is("P7 old", 1, () -> x.girl(1, 2));
        DUE.is("P7 not old", 0, () -> x.girl(0, 2));
        DUE.is("P7 without DYES", 9, () -> x.girl(0, 3));
        DUE.is("P7 without DYES, resting", 7, () -> x.girl(1, 3));
        DUE.noSuch("P7 girl(-1, 0)", () -> x.girl(-1, 0));
        DUE.noSuch("P7 girl(3, 0)", () -> x.girl(3, 0));
        DUE.noSuch("P7 girl(0, -1)", () -> x.girl(0, -1));
        DUE.noSuch("P7 girl(0, 4)", () -> x.girl(0, 4));
        DUE.is("P6 the middle of 3 by 3", 170, () -> new BlueBag().cell(4, 1));
        DUE.is("P6 the last of 6 by 5", 1 << 28 | 1 << 23, () -> Due.told("sky 6 5;").cell(29, 1));
        DUE.is("P6 one cell alone", 0, () -> Due.told("sky 1 1;").cell(0, 1));
    }

    private static void left() {
        DUE.is("P7 'left' is KNOBS less 1", 4, () -> Due.told("girl 0 0;knobs 5;dyes left;").girl(0, 3));
        DUE.is("P7 'left' of the last KNOB", 0, () -> Due.told("girl 0 0;knobs 1;dyes left;").girl(0, 3));
        DUE.is("P7 'left' without KNOBS is not below 0", 3, () -> Due.told("girl 0 0;knobs 0;dyes left+3;").girl(0, 3));
        BlueBag x = Due.told("girl 0 4;dyes day*10+row;");
        x.days(2);
        DUE.is("P7 'day' and 'row'", 21, () -> x.girl(0, 3));
        DUE.is("P7 what a girl at a PEG would dye", 13, () -> Due.told("peg 4;girl 5 4;").girl(0, 3));
    }

    private static void swishes() {
        // 13 for her cell, 6 beside; less 2; less a fifth
        behind(1, "0,4,0,4,9,4,0,4,0", "girl 5 4;");
        behind(1, "9,4,0,4,0,0,0,0,0", "girl 5 0;");
        behind(1, "0,0,0,0,0,4,0,4,9", "girl 5 8;");
        // 21, 10, 5 down the column
        behind(1, "0,16,0,0,7,0,0,3,0", "old 9 1;");
        behind(1, "0,16,0,0,0,0,0,3,0", "old 9 1;peg 4;");
        behind(1, "0,0,0,0,0,0,0,16,0", "old 9 7;");
        behind(1, "0,4,0,4,0,4,0,4,0", "peg 4;girl 5 4;");
        behind(1, "0,0,0,4,9,4,0,4,0", "peg 1;girl 5 4;");
        behind(1, "30,15,7,3,1", "sky 1 5;rinse 0;fades 0;dyes 30;old 0 0;");
        behind(1, "30,15", "sky 2 1;rinse 0;fades 0;dyes 31;girl 0 0;");
        behind(1, "0,0", "sky 2 1;rinse 0;fades 0;dyes 0-1;girl 0 0;");
        behind(1, "3,1", "sky 2 1;rinse 0;fades 0;girl 0 0;");
        behind(1, "99,99", "sky 2 1;rinse 0;fades 0;blue 0 98;blue 1 97;girl 9 0;");
        // without a knob for the second
        behind(1, "3,0,0", "sky 3 1;rinse 0;fades 0;knobs 1;old 0 0;old 0 2;");
        behind(3, "6,0,3", "sky 3 1;rinse 0;fades 0;knobs 3;old 0 0;old 0 2;");
        behind(1, "0,0,0", "sky 3 1;rinse 0;fades 0;knobs 0;old 0 0;old 0 2;");
        // girl by girl: the second sees what the first did, and one knob fewer
        behind(1, "4,3,0", "sky 3 1;rinse 0;fades 0;knobs 5;dyes left;old 0 0;old 0 1;");
        behind(1, "12,15,6", "sky 3 1;rinse 0;fades 0;dyes 6+beside;girl 0 0;girl 0 1;");
        BlueBag x = Due.told("peg 4;girl 5 4;");
        x.days(1);
        DUE.is("a girl at a PEG takes a KNOB", 19, () -> x.count(4));
        BlueBag y = Due.told("girl 5 4;old 5 0;");
        y.rest(0, true);
        y.days(1);
        DUE.like("a girl who is RESTING does nothing", "9,0,0,4,0,0,1,0,0", Due.blues(y));
        DUE.is("and takes no KNOB", 19, () -> y.count(4));
    }

    private static void noonAndNight() {
        behind(1, "0,0,2,78", "sky 4 1;blue 0 1;blue 1 2;blue 2 4;blue 3 99;bound 99;rinse 2;");
        behind(1, "78", "sky 1 1;blue 0 99;");
        behind(1, "80", "sky 1 1;blue 0 99;rinse 0;");
        behind(1, "0", "sky 1 1;blue 0 20;rinse 20;");
        behind(1, "8,19", "sky 2 1;rinse 0;blue 0 10;blue 1 20;fades beside/10;");
        behind(1, "10,0", "sky 2 1;rinse 0;blue 0 10;blue 1 20;fades (blue=20)*99;");
        behind(1, "10,20", "sky 2 1;rinse 0;blue 0 10;blue 1 20;fades 0-5;");
        behind(1, "10,9,8", "sky 1 3;rinse 0;blue 0 10;blue 1 10;blue 2 10;fades row;");
        behind(1, "10", "sky 1 1;rinse 0;blue 0 10;fades day;");
        behind(2, "9", "sky 1 1;rinse 0;blue 0 10;fades day;");
        behind(4, "4", "sky 1 1;rinse 0;blue 0 10;fades day;");
        // noon is ahead of the night: what FADES sees is rinsed
        behind(1, "4", "sky 1 1;rinse 2;blue 0 10;fades blue/2;");
        behind(1, "5,5", "sky 1 2;rinse 3;blue 0 10;blue 1 10;fades beside-5;");
    }

    private static void martins() {
        BlueBag x = Due.told("sky 3 1;blue 0 59;blue 1 60;blue 2 61;rinse 0;fades 0;");
        DUE.is("OVERDONE is above THE BOUND", 4, () -> x.overdone(1));
        x.days(3);
        DUE.is("a MARTIN each DAWN", 3, () -> x.count(7));
        BlueBag y = Due.told("sky 2 1;bound 5;girl 3 0;");
        y.days(1);
        DUE.is("OVERDONE at DAWN, ahead of noon", 1, () -> y.count(7));
        StringBuilder text = new StringBuilder("sky 6 5;rinse 0;fades 0;bound 1;");
        for (int c = 0; c < 30; c++) text.append("blue ").append(c).append(" 2;");
        BlueBag z = Due.told(text.toString());
        for (int i = 0; i < 16; i++) z.days(20);
        DUE.is("30 MARTINS a day", 9600, () -> z.count(7));
        DUE.is("P37 MARTINS that fell, not all", 390, () -> z.skies(0, 13, 0));
        z.days(13);
        DUE.is("30 MARTINS a day", 9990, () -> z.count(7));
        DUE.is("P15 MARTINS, 9999 at most", 9999, () -> z.sky(1, 1));
        z.days(1);
        DUE.is("9999 MARTINS at most", 9999, () -> z.count(7));
        z.undo();
        DUE.is("P13 MARTINS undone", 9990, () -> z.count(7));
    }

    public static void main(String[] args) {
        newObject();
        counts();
        left();
        swishes();
        noonAndNight();
        martins();
        DUE.end();
    }
}
