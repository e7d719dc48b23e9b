/** Promises 2 to 4: the tape, texts, their faults, and what expressions give. */
public final class TextTest {
    private static final Due DUE = new Due("TextTest");

    private static void fault(String want, String text) {
        DUE.like("coast() and fault() of: " + text, want, Due.faultOf(text));
    }

    private static void good(String text) {
        fault("0 -1", text);
    }

    private static String times(int many, String of) {
        return of.repeat(many);
    }

    private static void tape() {
        BlueBag x = new BlueBag();
        DUE.is("P4 fault() of a new object", -1, x::fault);
        for (int i = 1; i <= 35; i++) {
            int many = 20 * i;
            DUE.is("P2 feed, the " + i + ".", many, () -> x.feed(0x20202020, 0x20202020, 0x20202020, 0x20202020, 0x20202020));
        }
        DUE.is("P2 feed beyond 700", -1, () -> x.feed(1, 2, 3, 4, 5));
        DUE.is("P2 count(13) behind it", 700, () -> x.count(13));
        DUE.illegal("P3 coast(701)", () -> x.coast(701));
        DUE.illegal("P3 coast(-1)", () -> x.coast(-1));
        DUE.illegal("P3 coast(least)", () -> x.coast(Integer.MIN_VALUE));
        DUE.is("P3 count(13), the tape stays", 700, () -> x.count(13));
        DUE.is("P3 coast(700) of blanks", 0, () -> x.coast(700));
        DUE.is("P3 the tape is empty", 0, () -> x.count(13));
        DUE.illegal("P3 coast(1) of an empty tape", () -> x.coast(1));
        DUE.is("P3 coast(0)", 0, () -> x.coast(0));
        // 's' 'k' 'y' ' ', '4' ' ' '5' ';', and a fault behind the bytes that are asked for
        DUE.is("P2 the highest byte first", 20, () -> x.feed(0x736b7920, 0x3420353b, 0xff41ff41, 0, 0));
        DUE.is("P3 coast(8) takes the first bytes alone", 0, () -> x.coast(8));
        DUE.is("P3 the rest of the tape is gone", 0, () -> x.count(13));
        DUE.is("P5 CELLS", 20, () -> x.count(0));
        DUE.is("P5 WIDE", 4, () -> x.count(1));
    }

    private static void anew() {
        BlueBag x = Due.told("sky 2 2;blue 0 9;girl 1 1;knobs 7;rinse 1;bound 8;dyes 4;fades 0;");
        x.days(30);
        x.days(1);
        x.see(0, 0, 0);
        x.see(0, 0, 100);
        x.image();
        Due.feed(x, "girl x");
        DUE.is("P3 a fault", 1, () -> x.coast(6));
        DUE.is("P4 its place", 5, x::fault);
        DUE.is("P3 STATUS 0 with a fault", 1, () -> x.count(14));
        DUE.is("P3 a fault leaves CELLS", 4, () -> x.count(0));
        DUE.is("P3 a fault leaves GIRLS", 1, () -> x.count(2));
        DUE.is("P3 a fault leaves the DAY", 1, () -> x.count(3));
        DUE.is("P3 a fault leaves RINSE", 1, () -> x.count(5));
        DUE.is("P3 a fault leaves DYES", 4, () -> x.girl(0, 3));
        DUE.is("P3 a fault leaves ACTS", 1, () -> x.count(11));
        DUE.is("P3 a fault leaves SEEN", 1, () -> x.count(12));
        DUE.is("P3 a fault leaves the image", 1, () -> x.restore() ? 1 : 0);
        DUE.is("P39 with the STATUS of then", 0, () -> x.count(14));
        DUE.is("P4 the fault's place is not in the image", 5, x::fault);
        DUE.illegal("P3 coast(1) of an empty tape", () -> x.coast(1));
        DUE.is("P4 an exception leaves the place", 5, x::fault);
        Due.feed(x, "girl 2 8;");
        DUE.is("P3 a text without a fault", 0, () -> x.coast(9));
        DUE.is("P4 no place", -1, x::fault);
        int[] want = {9, 3, 1, 0, 20, 2, 60, 0, 0, 0, 0, 0, 0, 0, 0, 1, 1};
        for (int what = 0; what < want.length; what++) {
            int w = what;
            DUE.is("P3 all anew but STATUS: count(" + w + ")", want[w], () -> x.count(w));
        }
        DUE.is("P3 DYES are gone", 7, () -> x.girl(0, 3));
        DUE.is("P3 ACTS are gone", -1, x::undo);
        DUE.is("P3 the image is gone", 0, () -> x.restore() ? 1 : 0);
    }

    private static void again(BlueBag x, String want, String text) {
        Due.feed(x, text);
        String got = x.coast(text.length()) + " " + x.fault();
        DUE.like("P3 on one object, coast() and fault() of: " + text, want, got);
    }

    /** What one text told, or left half told, does not count for the next one. */
    private static void textBehindText() {
        BlueBag x = new BlueBag();
        again(x, "0 -1", "sky 2 2;blue 0 9;old 1 1;peg 2;knobs 7;rinse 1;bound 8;dyes 4;fades 0;");
        again(x, "0 -1", "sky 2 2;blue 0 9;old 1 1;peg 2;knobs 7;rinse 1;bound 8;dyes 4;fades 0;");
        again(x, "1 43", "sky 2 2;blue 0 9;old 1 1;peg 2;dyes 4;fades");
        again(x, "0 -1", "blue 8 9;girl 1 1;peg 7;");
        DUE.is("P3 no 'old' is left", 0, () -> x.girl(0, 2));
        DUE.is("P3 no PEG is left", 1 << 7, () -> x.count(8));
        DUE.is("P3 no DYES are left", 5, () -> x.girl(0, 3));
        DUE.is("P3 no FADES are left", 6, () -> x.then(8, 1));
        again(x, "0 -1", "");
        DUE.is("P3 no girls are left", 0, () -> x.count(2));
        DUE.is("P3 no BLUE is left", 0, () -> x.count(10));
    }

    private static void linesAndNumbers() {
        good("");
        good(" \n  ");
        fault("1 0", "x");
        fault("1 0", ";");
        fault("1 0", "3");
        fault("1 0", "Sky 3 3;");
        fault("1 0", "skyx 3 3;");
        fault("1 2", "  not 1;");
        fault("1 0", "\u00e9");
        fault("1 3", "sky");
        fault("1 4", "sky ");
        fault("1 6", "sky 3 ");
        fault("1 7", "sky 3 3");
        fault("1 3", "sky\t3 3;");
        fault("1 5", "sky 3,3;");
        fault("1 8", "sky 3 3 3;");
        fault("1 5", "sky 3;");
        good("sky 1 1;");
        good("sky 6 5;");
        good("sky6\n5 ;");
        good("sky 0006 0005;");
        fault("2 4", "sky 0 3;");
        fault("2 4", "sky 7 3;");
        fault("2 6", "sky 3 0;");
        fault("2 6", "sky 3 6;");
        fault("2 4", "sky 00001 1;");
        fault("2 4", "sky 99999999999999999999 1;");
        good("blue 8 99;blue 0 0;");
        fault("3 5", "blue 9 1;");
        fault("3 5", "blue 9999 1;");
        fault("2 5", "blue 10000 1;");
        fault("2 7", "blue 8 100;");
        fault("1 5", "blue x 1;");
        fault("3 5", "blue 9 100;");
        fault("4 14", "blue 1 1;blue 1 1;");
        fault("3 13", "sky 2 2;blue 4 1;");
        good("sky 2 2;blue 3 1;");
        good("girl 9 8;old 0 0;");
        fault("2 5", "girl 10 8;");
        fault("3 7", "girl 9 9;");
        fault("1 4", "girl;");
        fault("2 4", "old 10 8;");
        good(times(3, "girl 0 0;") + times(3, "old 0 0;"));
        fault("2 54", times(6, "girl 0 0;") + "old 0 0;");
        fault("2 48", times(6, "old 0 0;") + "girl x");
        good("peg 0 1 2;peg 8;");
        fault("1 3", "peg;");
        fault("4 6", "peg 0 0;");
        fault("4 12", "peg 0;peg 1 0;");
        fault("3 6", "peg 1 9;");
        fault("2 6", "peg 1 10000;");
        fault("1 6", "peg 1 x;");
        good("peg 4;blue 4 9;");
        good("knobs 0;rinse 0;bound 1;");
        good("knobs 99;rinse 20;bound 99;");
        fault("2 6", "knobs 100;");
        fault("2 6", "rinse 21;");
        fault("2 6", "bound 0;");
        fault("2 6", "bound 100;");
    }

    private static void onceOnly() {
        fault("5 8", "sky 2 2;sky 2 2;");
        fault("4 9", "blue 1 1;sky 2 2;");
        fault("4 9", "girl 1 1;sky 2 2;");
        fault("4 8", "old 1 1;sky 2 2;");
        fault("4 6", "peg 1;sky 2 2;");
        fault("4 17", "sky 2 2;blue 1 1;sky 2 2;");
        good("knobs 3;dyes blue;sky 2 2;");
        fault("5 8", "knobs 1;knobs 1;");
        fault("5 8", "rinse 1;rinse 1;");
        fault("5 8", "bound 1;bound 1;");
        fault("5 7", "dyes 1;dyes 1;");
        fault("5 8", "fades 1;fades 1;");
    }

    private static void exprs() {
        good("dyes 9999;fades 0;");
        fault("2 5", "dyes 10000;");
        fault("1 4", "dyes;");
        fault("1 4", "dyes");
        fault("1 6", "dyes 1");
        fault("3 5", "dyes foo;");
        fault("3 5", "dyes and;");
        fault("3 5", "dyes sky;");
        fault("3 5", "dyes z;");
        fault("3 5", "dyes a;");
        fault("3 5", "dyes bluez;");
        fault("1 5", "dyes {;");
        fault("1 5", "dyes `;");
        fault("1 5", "dyes :;");
        fault("1 9", "dyes 1 + /;");
        good("dyes blue+beside+row+day+skill+left;fades blue+beside+row+day;");
        fault("3 6", "fades skill;");
        fault("3 6", "fades left;");
        fault("1 8", "dyes not;");
        fault("3 9", "dyes 1 + not 2;");
        fault("3 9", "dyes 1 < not 2;");
        fault("3 7", "dyes 1*or;");
        fault("1 11", "dyes 1 < 2 < 3;");
        fault("1 11", "dyes 1 = 2 < 3;");
        good("dyes 1 < 2 and 2 = 3 or not 3 < 4;");
        good("dyes (1 < 2) < 3;");
        good("dyes not 1 < 2;");
        fault("1 7", "dyes 1 2;");
        fault("1 7", "dyes 1 20000;");
        fault("1 7", "dyes 1 blue;");
        fault("1 7", "dyes 1 not 1;");
        fault("1 7", "dyes (1;");
        fault("1 8", "dyes (1));");
        fault("1 6", "dyes 1);");
        fault("1 6", "dyes ();");
        fault("1 5", "dyes -1;");
        fault("1 7", "dyes 1+-1;");
        fault("1 7", "dyes 1 >2;");
        good("dyes " + times(6, "not ") + "1;");
        fault("2 29", "dyes " + times(7, "not ") + "1;");
        fault("3 29", "dyes " + times(6, "not ") + "foo;");
        good("dyes not not not (not not not not 1);");
        good("dyes not not not not 1 and not not not not 1;");
    }

    private static void nesting() {
        good("dyes (((((1)))));");
        fault("2 11", "dyes ((((((1))))));");
        fault("2 11", "dyes ((((((blue");
        fault("2 11", "dyes ((((((foo");
        fault("2 11", "dyes ((((((not 1");
        fault("2 11", "dyes ((((((and");
        fault("2 11", "dyes ((((((12345");
        fault("2 11", "dyes (((((((");
        fault("1 11", "dyes (((((()");
        fault("1 11", "dyes ((((((+");
        fault("1 11", "dyes ((((((");
        fault("2 15", "dyes (((((1)+((1))))));");
        good("dyes (((((1)+(1)))));");
        fault("2 13", "dyes 1+(((((((1");
        fault("2 13", "dyes 1+((((((1");
    }

    // ---- what expressions give

    private static void gives(int want, String expr) {
        BlueBag x = Due.told("girl 7 4;blue 4 10;blue 1 3;blue 3 4;blue 5 5;blue 7 6;dyes " + expr + ";");
        DUE.is("girl(0, 3) by " + expr, want, () -> x.girl(0, 3));
    }

    private static void worth() {
        gives(10, "blue");
        gives(18, "beside");
        gives(1, "row");
        gives(0, "day");
        gives(7, "skill");
        gives(19, "left");
        gives(0, "0");
        gives(30, "30");
        gives(30, "31");
        gives(30, "9999");
        gives(0, "0-1");
        gives(12, "0012");
        gives(4, "7-2-1");
        gives(14, "2+3*4");
        gives(20, "(2+3)*4");
        gives(6, "20/3");
        gives(18, "20/3*3");
        gives(2, "20/5/2");
        gives(0, "7/0");
        gives(5, "5+7/(3-3)");
        gives(7, "(0-7)/2+10");
        gives(1, "1<2");
        gives(0, "2<1");
        gives(0, "2<2");
        gives(1, "2=2");
        gives(0, "1=2");
        gives(1, "1+1=2");
        gives(1, "3*3<2*5");
        gives(1, "not 0");
        gives(0, "not 5");
        gives(1, "not not 5");
        gives(1, "3 and 4");
        gives(0, "3 and 0");
        gives(0, "0 and 3");
        gives(1, "0 or 7");
        gives(1, "0-7 or 0");
        gives(0, "0 or 0");
        gives(1, "1 or 0 and 0");
        gives(0, "(1 or 0) and 0");
        gives(0, "not 1<2");
        gives(0, "not 1=1");
        gives(1, "(not 1)<2");
        gives(0, "not 0 and 0");
        gives(1, "not (0 and 0)");
        gives(6, "1+(2<3)*5");
        gives(1, "9999*9999*9999<0");
        gives(1, "8192*8192*32/(0-1)<0");
        gives(9, "9*(not blue<9 and beside=18)");
        // as many steps and as deep as a text can hold
        gives(5, "(1" + times(300, "+1") + ")-296");
        String deep = times(5, "0 or 1 and 0<0+1*(");
        gives(1, deep + "0 or 1 and 0<0+1*5" + times(5, ")"));
        gives(0, deep + "0 or 1 and 0<0+1*0" + times(5, ")"));
    }

    private static void whole() {
        String head = "girl 0 0;dyes 1";
        String text = head + times((699 - head.length()) / 2, "-0") + ";";
        text = text + times(700 - text.length(), " ");
        BlueBag x = Due.told(text);
        DUE.is("a text of " + text.length() + " bytes", 1, () -> x.girl(0, 3));
    }

    public static void main(String[] args) {
        tape();
        anew();
        textBehindText();
        linesAndNumbers();
        onceOnly();
        exprs();
        nesting();
        worth();
        whole();
        DUE.end();
    }
}
