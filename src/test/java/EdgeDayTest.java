/**
 * The boundary cases of a DAY, of ACTS, and of promises 8 to 13, 38 and 39: each test names in quotes the sentence that it
 * holds the class to.
 */
public final class EdgeDayTest {
    private static final Due DUE = new Due("EdgeDayTest");
    /** Nothing is rinsed and nothing fades. */
    private static final String STILL = "rinse 0;fades 0;";

    private static void behind(String sentence, int days, String want, String text) {
        BlueBag x = Due.told(text);
        x.days(days);
        DUE.like(sentence + " behind " + days + " of: " + text, want, Due.blues(x));
    }

    private static long flag(boolean is) {
        return is ? 1 : 0;
    }

    // ---- pegs

    private static void pegs() {
        String s = "'A CELL with a PEG has BLUE 0 (and gets none)'";
        DUE.is(s + " a BLUE ahead of it", 0, () -> Due.told("blue 4 50;peg 4;").count(10));
        DUE.is(s + " a BLUE behind it", 0, () -> Due.told("peg 4;blue 4 50;").count(10));
        behind(s + " her own", 1, "0", "sky 1 1;" + STILL + "peg 0;girl 9 0;");
        behind(s + " from beside", 1, "30,0,0", "sky 3 1;" + STILL + "peg 1;dyes 30;girl 0 0;");
        behind(s + " by a drip", 1, "30,0,7,0,1", "sky 1 5;" + STILL + "peg 1 3;dyes 30;old 0 0;");
        behind(s + " those beside and below her do", 1, "0,15,15,0", "sky 2 2;" + STILL + "peg 0;dyes 30;girl 0 0;");
        behind(s + " those below an old one do", 1, "0,15,7", "sky 1 3;" + STILL + "peg 0;dyes 30;old 0 0;");
        DUE.is(s + " and is never OVERDONE", 0, () -> Due.told("sky 1 1;bound 1;peg 0;girl 9 0;").overdone(1));
        BlueBag x = Due.told("sky 2 1;" + STILL + "blue 0 40;dyes 30;girl 0 1;");
        DUE.is("'a CELL gets a PEG (BLUE is 0 then)'", 40, () -> x.peg(0, true));
        DUE.is("'a CELL gets a PEG (BLUE is 0 then)'", 0, () -> x.cell(0, 0));
        DUE.is("'or has none any more': BLUE as it was", 0, () -> x.peg(0, false));
        x.days(1);
        DUE.like("'or has none any more': it gets some", "15,30", Due.blues(x));
    }

    // ---- swishing

    private static void knobs() {
        String s = "'A GIRL swishes, if there is a KNOB: there is one less'";
        behind(s + " none", 1, "0,0", "sky 2 1;" + STILL + "knobs 0;girl 9 0;");
        behind(s + " one for two", 1, "3,0", "sky 2 1;" + STILL + "knobs 1;old 0 0;old 0 1;");
        behind(s + " two for two", 1, "3,3", "sky 2 1;" + STILL + "knobs 2;old 0 0;old 0 1;");
        DUE.is(s + " it stays 0", 0, () -> Due.told("knobs 0;girl 9 0;").sky(1, 0));
        DUE.is(s + " down to 0", 0, () -> Due.told("knobs 6;girl 0 0;girl 0 0;").sky(3, 0));
        DUE.is(s + " and not below", 0, () -> Due.told("knobs 5;girl 0 0;girl 0 0;").sky(3, 0));
        BlueBag x = Due.told("sky 2 1;" + STILL + "knobs 1;old 0 0;old 0 1;");
        x.rest(0, true);
        x.days(1);
        DUE.like("'each swishes who isn't RESTING': her KNOB is the other one's", "0,3", Due.blues(x));
        DUE.is("'each swishes who isn't RESTING'", 0, () -> x.count(4));
    }

    private static void dyes() {
        String kept = "'what DYES gives for it, kept to 0 to 30'";
        behind(kept + " 30", 1, "30,15", "sky 2 1;" + STILL + "dyes 30;girl 0 0;");
        behind(kept + " 31", 1, "30,15", "sky 2 1;" + STILL + "dyes 31;girl 0 0;");
        behind(kept + " 9999", 1, "30,15", "sky 2 1;" + STILL + "dyes 9999;girl 0 0;");
        behind(kept + " 0", 1, "0,0", "sky 2 1;" + STILL + "dyes 0;girl 9 0;");
        behind(kept + " below 0", 1, "50,50", "sky 2 1;" + STILL + "blue 0 50;blue 1 50;dyes 0-9;girl 9 0;");
        // 9999 three times is 3267617327, below 0 as an int
        behind(kept + " wrapped below 0", 1, "0,0", "sky 2 1;" + STILL + "dyes 9999*9999*9999;girl 0 0;");
        behind("'(without it SKILL twice, and 3)' 0", 1, "3", "sky 1 1;" + STILL + "girl 0 0;");
        behind("'(without it SKILL twice, and 3)' 9", 1, "21", "sky 1 1;" + STILL + "girl 9 0;");
        String half = "'each CELL beside it has half of that more, cut down'";
        behind(half + " of 1", 1, "1,0", "sky 2 1;" + STILL + "dyes 1;girl 0 0;");
        behind(half + " of 2", 1, "2,1", "sky 2 1;" + STILL + "dyes 2;girl 0 0;");
        behind(half + " of 29", 1, "29,14", "sky 2 1;" + STILL + "dyes 29;girl 0 0;");
        behind(half + " in the middle", 1, "0,5,0,5,10,5,0,5,0", STILL + "dyes 10;girl 0 4;");
        behind(half + " in a corner", 1, "10,5,0,5,0,0,0,0,0", STILL + "dyes 10;girl 0 0;");
        behind(half + " in the last corner", 1, "0,0,0,0,0,5,0,5,10", STILL + "dyes 10;girl 0 8;");
        behind(half + " at the end of a row", 1, "0,0,5,0,5,10,0,0,5", STILL + "dyes 10;girl 0 5;");
        String most = "'(99 at most, each.)'";
        behind(most + " just 99", 1, "99,99", "sky 2 1;" + STILL + "blue 0 69;blue 1 84;dyes 30;girl 0 0;");
        behind(most + " more", 1, "99,99", "sky 2 1;" + STILL + "blue 0 70;blue 1 85;dyes 30;girl 0 0;");
        behind(most + " half of what is given, not of what it has more", 1, "99,15", "sky 2 1;" + STILL
            + "blue 0 99;dyes 30;girl 0 0;");
    }

    private static void drips() {
        String s = "'the one below that half of this, and so on to the last row, each cut down'";
        behind(s + " five rows", 1, "30,15,7,3,1", "sky 1 5;" + STILL + "dyes 30;old 0 0;");
        behind(s + " down to 0", 1, "7,3,1,0,0", "sky 1 5;" + STILL + "dyes 7;old 0 0;");
        behind(s + " of 1", 1, "1,0,0", "sky 1 3;" + STILL + "dyes 1;old 0 0;");
        behind(s + " from the last row", 1, "0,0,9", "sky 1 3;" + STILL + "dyes 9;old 0 2;");
        behind(s + " from the last but one", 1, "0,9,4", "sky 1 3;" + STILL + "dyes 9;old 0 1;");
        behind(s + " none beside", 1, "0,20,0,0,10,0", "sky 3 2;" + STILL + "dyes 20;old 0 1;");
        behind(s + " along the last column", 1, "0,20,0,10,0,5", "sky 2 3;" + STILL + "dyes 20;old 0 1;");
        behind("'(99 at most, each.)' by a drip", 1, "99,99,99", "sky 1 3;" + STILL
            + "blue 0 70;blue 1 85;blue 2 93;dyes 30;old 0 0;");
        behind("'(99 at most, each.)' by a drip, just 99", 1, "99,99,99", "sky 1 3;" + STILL
            + "blue 0 69;blue 1 84;blue 2 92;dyes 30;old 0 0;");
    }

    // ---- dawn, noon, night

    private static void bound() {
        String s = "'each CELL that has more BLUE than THE BOUND is OVERDONE'";
        DUE.is(s + " just so much", 0, () -> Due.told("sky 1 1;bound 1;blue 0 1;").overdone(1));
        DUE.is(s + " one more", 1, () -> Due.told("sky 1 1;bound 1;blue 0 2;").overdone(1));
        DUE.is(s + " 60 without", 2, () -> Due.told("sky 2 1;blue 0 60;blue 1 61;").overdone(1));
        DUE.is(s + " none above 99", 0, () -> Due.told("sky 1 1;bound 99;blue 0 99;dyes 30;girl 0 0;").overdone(1));
        DUE.is(s + " 99 above 98", 1, () -> Due.told("sky 1 1;bound 98;blue 0 99;").overdone(1));
        DUE.is(s + " behind all swishes", 1, () -> Due.told("sky 1 1;bound 5;girl 0 0;old 0 0;").overdone(1));
        DUE.is(s + " ahead of noon", 1, () -> Due.told("sky 1 1;bound 5;rinse 20;blue 0 6;").overdone(1));
        BlueBag x = Due.told("sky 2 1;bound 5;rinse 20;blue 0 6;blue 1 6;");
        DUE.is("'a MARTIN falls' for each", 2, () -> x.sky(1, 1));
        DUE.is("'a MARTIN falls' at DAWN alone", 2, () -> x.sky(2, 1));
    }

    private static void mostMartins() {
        String s = "'a MARTIN falls (9999 at most)'";
        BlueBag x = Due.told("sky 3 1;" + STILL + "bound 1;blue 0 2;blue 1 2;blue 2 2;");
        for (int i = 0; i < 49; i++) x.days(20);
        DUE.is(s + " far below", 2940, () -> x.count(7));
        StringBuilder text = new StringBuilder("sky 6 2;" + STILL + "bound 1;");
        for (int c = 0; c < 12; c++) text.append("blue ").append(c).append(" 2;");
        BlueBag y = Due.told(text.toString());
        for (int i = 0; i < 41; i++) y.days(20);
        y.days(13);
        DUE.is(s + " 12 in each of 833 DAYS", 9996, () -> y.count(7));
        DUE.is(s + " four CELLS fewer", 12, () -> Integer.bitCount(y.overdone(1)));
        y.days(1);
        DUE.is(s, 9999, () -> y.count(7));
        DUE.is(s + " from there on", 9999, () -> y.sky(40, 1));
        y.days(20);
        DUE.is(s + " from there on", 9999, () -> y.count(7));
        y.undo();
        y.undo();
        DUE.is(s + " UNDONE", 9996, () -> y.count(7));
    }

    private static void noon() {
        String s = "'At noon each CELL has RINSE less BLUE (not below 0)'";
        behind(s + " 2 without", 1, "0,0,0,1", "sky 4 1;fades 0;blue 1 1;blue 2 2;blue 3 3;");
        behind(s + " 0", 1, "0,1,99", "sky 3 1;rinse 0;fades 0;blue 1 1;blue 2 99;");
        behind(s + " 20", 1, "0,0,1,79", "sky 4 1;rinse 20;fades 0;blue 0 19;blue 1 20;blue 2 21;blue 3 99;");
    }

    private static void night() {
        String kept = "'what FADES gives, kept to 0 to its BLUE'";
        behind(kept + " just that", 1, "0", "sky 1 1;rinse 0;blue 0 9;fades blue;");
        behind(kept + " one more", 1, "0", "sky 1 1;rinse 0;blue 0 9;fades blue+1;");
        behind(kept + " one less", 1, "1", "sky 1 1;rinse 0;blue 0 9;fades blue-1;");
        behind(kept + " 0", 1, "9", "sky 1 1;rinse 0;blue 0 9;fades 0;");
        behind(kept + " below 0", 1, "9", "sky 1 1;rinse 0;blue 0 9;fades 0-1;");
        behind(kept + " of BLUE 0", 1, "0", "sky 1 1;rinse 0;fades 9;");
        String fifth = "'(without it BLUE by 5)'";
        behind(fifth, 1, "4,4,8,8,80", "sky 5 1;rinse 0;blue 0 4;blue 1 5;blue 2 9;blue 3 10;blue 4 99;");
        behind(fifth + " behind noon", 1, "4,4", "sky 2 1;rinse 2;blue 0 6;blue 1 7;");
        String once = "'for all at once, as they were at nightfall'";
        behind(once, 1, "10,30,10", "sky 3 1;rinse 0;blue 0 20;blue 1 40;blue 2 20;fades beside/4;");
        behind(once + ", behind noon", 1, "1,1", "sky 2 1;rinse 1;blue 0 10;blue 1 10;fades beside-1;");
        String day = "'The DAY is one more then'";
        behind(day + ": the first night is DAY 0", 1, "9", "sky 1 1;rinse 0;blue 0 9;fades day*5;");
        behind(day, 2, "4", "sky 1 1;rinse 0;blue 0 9;fades day*5;");
        behind(day + ": the first DAWN is DAY 0", 1, "0", "sky 1 1;" + STILL + "dyes day*5;girl 0 0;");
        behind(day, 3, "15", "sky 1 1;" + STILL + "dyes day*5;girl 0 0;");
    }

    // ---- acts

    private static void refused(String sentence, BlueBag x, Due.Call call, long want) {
        String before = Due.state(x);
        int status = x.count(15);
        DUE.is(sentence, want, call);
        DUE.like(sentence + " (STATUS 1), and nothing else changes", before.replace(" 15:" + status, " 15:" + (status + 1)),
            Due.state(x));
    }

    private static void unheard(String sentence, BlueBag x, Due.Call call) {
        String before = Due.state(x);
        DUE.noSuch(sentence, call);
        DUE.like(sentence + ", and nothing changes", before, Due.state(x));
    }

    private static void days() {
        int[] not = {0, -1, 21, 1000, Integer.MAX_VALUE, Integer.MIN_VALUE};
        for (int many : not) {
            BlueBag y = Due.told("sky 2 1;girl 9 0;blue 1 99;");
            refused("P8 'NONE: not 1 to 20' " + many, y, () -> y.days(many), -1);
        }
        BlueBag x = Due.told("sky 2 1;girl 9 0;blue 1 99;");
        DUE.is("P8 'DAYS go by (1 to 20)'", 1, () -> x.days(1));
        DUE.is("P8 'DAYS go by (1 to 20)'", 21, () -> x.days(20));
        DUE.is("P5 ACTS", 2, () -> x.count(11));
        for (int i = 0; i < 47; i++) x.days(20);
        DUE.is("P8 the DAY", 979, () -> x.days(18));
        DUE.is("P8 '(it would be above 999)' just 999", 999, () -> x.days(20));
        refused("P8 '(it would be above 999)' at 999", x, () -> x.days(1), -1);
        refused("P8 '(it would be above 999)' at 999", x, () -> x.days(20), -1);
        x.undo();
        DUE.is("P8 one more", 980, () -> x.days(1));
        refused("P8 '(it would be above 999)' 1000", x, () -> x.days(20), -1);
        DUE.is("P8 '(it would be above 999)' just 999", 999, () -> x.days(19));
        DUE.is("P14 THEN goes on beyond", 0, () -> x.then(0, 40));
        DUE.is("P37 SKIES, too", 1, () -> x.skies(0, 40, 1) >= 0 ? 1 : 0);
    }

    private static void rest() {
        BlueBag x = Due.told("sky 2 1;girl 0 0;girl 0 1;");
        refused("P9 'False: it is so already', not RESTING", x, () -> flag(x.rest(1, false)), 0);
        DUE.is("P9 'RESTING'", 1, () -> flag(x.rest(1, true)));
        refused("P9 'False: it is so already', RESTING", x, () -> flag(x.rest(1, true)), 0);
        DUE.is("P5 RESTING (bits)", 2, () -> x.count(9));
        DUE.is("P9 'or not'", 1, () -> flag(x.rest(1, false)));
        unheard("P9 'no such GIRL' 2", x, () -> flag(x.rest(2, true)));
        unheard("P9 'no such GIRL' -1", x, () -> flag(x.rest(-1, false)));
        BlueBag none = new BlueBag();
        unheard("P9 'no such GIRL' of none", none, () -> flag(none.rest(0, true)));
    }

    private static void go() {
        BlueBag x = Due.told("sky 2 2;girl 0 0;girl 0 3;");
        refused("P10 'NONE: she is there'", x, () -> x.go(1, 3), -1);
        DUE.is("P10 'where she was'", 3, () -> x.go(1, 0));
        DUE.is("P6 both are there", 3, () -> x.cell(0, 2));
        refused("P10 'NONE: she is there', though another one is, too", x, () -> x.go(1, 0), -1);
        unheard("P10 'no such GIRL'", x, () -> x.go(2, 0));
        unheard("P10 'no such GIRL'", x, () -> x.go(-1, 0));
        unheard("P10 'no such CELL'", x, () -> x.go(0, 4));
        unheard("P10 'no such CELL'", x, () -> x.go(0, -1));
        DUE.is("P10 to a CELL with a PEG", 0, () -> Due.told("peg 8;girl 0 0;").go(0, 8));
    }

    private static void bag() {
        BlueBag x = Due.told("knobs 48;");
        for (int more : new int[] {0, -1, 51, Integer.MAX_VALUE, Integer.MIN_VALUE}) {
            refused("P11 'NONE: not 1 to 50' " + more, x, () -> x.bag(more), -1);
        }
        DUE.is("'(1 to 50' 1", 49, () -> x.bag(1));
        DUE.is("'(1 to 50, 99 at most)' just 99", 99, () -> x.bag(50));
        DUE.is("'99 at most'", 99, () -> x.bag(1));
        DUE.is("'99 at most'", 99, () -> x.bag(50));
        DUE.is("'what its call doesn't refuse is one, also where all is as it was'", 4, () -> x.count(11));
        DUE.is("P13 'UNDONE' though all was as it was", 3, x::undo);
        DUE.is("P13 'UNDONE' though all was as it was", 99, () -> x.count(4));
        DUE.is("'99 at most', less than 50 more", 99, () -> Due.told("knobs 50;").bag(50));
    }

    private static void peg() {
        BlueBag x = Due.told("sky 2 1;blue 0 99;peg 1;");
        refused("P12 'NONE: it is so already', none", x, () -> x.peg(0, false), -1);
        refused("P12 'NONE: it is so already', a PEG", x, () -> x.peg(1, true), -1);
        DUE.is("P12 'BLUE as it was'", 99, () -> x.peg(0, true));
        refused("P12 'NONE: it is so already', a PEG", x, () -> x.peg(0, true), -1);
        DUE.is("P12 'BLUE as it was', 0 with a PEG", 0, () -> x.peg(1, false));
        unheard("P12 'no such CELL'", x, () -> x.peg(2, true));
        unheard("P12 'no such CELL'", x, () -> x.peg(-1, false));
        DUE.is("P12 the last CELL of the largest", 0, () -> Due.told("sky 6 5;").peg(29, true));
    }

    private static void undo() {
        String s = "P13 'NONE: there is none'";
        BlueBag x = Due.told("sky 2 1;girl 9 0;");
        String before = Due.state(x);
        DUE.is(s, -1, x::undo);
        DUE.like(s + ", and nothing changes", before, Due.state(x));
        x.see(0, 0, 5);
        x.days(3);
        x.days(0);
        DUE.is("P13 'how many are left'", 0, x::undo);
        DUE.like("P13 UNDONE: STATUS and SEEN stay", before.replace(" 12:0", " 12:1").replace(" 15:0", " 15:1"), Due.state(x));
        String most = "'(at most 40 are kept, the latest ones)'";
        BlueBag y = Due.told("knobs 0;");
        for (int i = 1; i <= 40; i++) {
            y.bag(1);
            int kept = i;
            DUE.is(most, kept, () -> y.count(11));
        }
        DUE.is(most + " all of 40", 0, () -> undone(y, 40));
        for (int i = 1; i <= 43; i++) y.bag(1);
        DUE.is(most + " no more than 40", 40, () -> y.count(11));
        DUE.is(most + " the latest of 43", 3, () -> undone(y, 40));
        DUE.is(most + " no more than 40", -1, y::undo);
        y.bag(7);
        DUE.is(most + " anew", 1, () -> y.count(11));
        DUE.is(most + " anew", 3, () -> undone(y, 1));
    }

    /** KNOBS when so many ACTS are undone. */
    private static int undone(BlueBag x, int many) {
        for (int i = 0; i < many; i++) x.undo();
        return x.count(4);
    }

    // ---- the image

    private static void image() {
        BlueBag none = new BlueBag();
        String before = Due.state(none);
        DUE.is("P39 'False: there is none'", 0, () -> flag(none.restore()));
        DUE.like("P39 'False: there is none', and nothing changes", before, Due.state(none));
        BlueBag x = Due.told("sky 2 1;girl 5 0;knobs 9;");
        x.bag(1);
        x.peg(1, true);
        x.see(0, 1, 13);
        String kept = Due.state(x);
        x.image();
        DUE.like("P38 changes nothing", kept, Due.state(x));
        // what is undone and done anew behind the image stands where the image's ACTS were kept
        x.undo();
        x.undo();
        x.bag(40);
        x.days(20);
        x.rest(0, true);
        x.forget();
        x.see(1, 2, 3);
        DUE.is("P39 'It is as the IMAGE again: true'", 1, () -> flag(x.restore()));
        DUE.like("P39 'It is as the IMAGE again'", kept, Due.state(x));
        DUE.is("P39 'ACTS that are kept', the second", 1, x::undo);
        DUE.is("P39 'ACTS that are kept', the second", 0, () -> x.count(8));
        DUE.is("P39 'ACTS that are kept', the first", 0, x::undo);
        DUE.is("P39 'ACTS that are kept', the first", 9, () -> x.count(4));
        DUE.is("P39 'what is SEEN'", 0, () -> x.skilled(2));
        DUE.is("P39 again", 1, () -> flag(x.restore()));
        DUE.like("P39 again", kept, Due.state(x));
        x.days(1);
        x.image();
        x.undo();
        DUE.is("P38 'in place of another one'", 1, () -> flag(x.restore()));
        DUE.is("P38 'in place of another one'", 1, () -> x.count(3));
    }

    private static void fullImage() {
        BlueBag x = Due.told("knobs 0;");
        for (int i = 0; i < 41; i++) x.bag(1);
        for (int i = 0; i < 8; i++) x.see(0, 0, i);
        x.see(0, 0, 9);
        x.image();
        String kept = Due.state(x);
        for (int i = 0; i < 45; i++) x.days(1);
        x.forget();
        DUE.is("P39 40 ACTS and 8 SEEN", 1, () -> flag(x.restore()));
        DUE.like("P39 40 ACTS and 8 SEEN", kept, Due.state(x));
        for (int i = 40; i >= 1; i--) {
            int left = i;
            DUE.is("P39 each of the 40", left, () -> undone(x, 1));
        }
        DUE.is("P39 no more", -1, x::undo);
        x.restore();
        DUE.is("P32 'NONE: there are 8', as in the image", -1, () -> x.see(0, 0, 0));
        Due.feed(x, "knobs 7;");
        DUE.is("P39 the tape is not in the image", 20, () -> x.restore() ? x.count(13) : -1);
        x.coast(8);
        DUE.is("P3 'the image is gone'", 0, () -> flag(x.restore()));
    }

    public static void main(String[] args) {
        pegs();
        knobs();
        dyes();
        drips();
        bound();
        mostMartins();
        noon();
        night();
        days();
        rest();
        go();
        bag();
        peg();
        undo();
        image();
        fullImage();
        DUE.end();
    }
}
