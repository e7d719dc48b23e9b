/** Promises 14 to 18, 27, 28: what will be, if only days go by. */
public final class ThenTest {
    private static final Due DUE = new Due("ThenTest");

    private static void then() {
        BlueBag x = Due.told("girl 5 4;knobs 2;");
        // 13 - 2 = 11, less 2 is 9; 22 - 2 = 20, less 4 is 16; then without knobs 14, less 2 is 12
        int[] want = {0, 9, 16, 12, 8, 5, 3, 1, 0, 0};
        for (int d = 0; d < want.length; d++) {
            int days = d;
            DUE.is("P14 then(4, " + d + ")", want[d], () -> x.then(4, days));
        }
        DUE.is("P14 then(4, 40)", 0, () -> x.then(4, 40));
        DUE.noSuch("P14 then(9, 0)", () -> x.then(9, 0));
        DUE.noSuch("P14 then(-1, 0)", () -> x.then(-1, 0));
        DUE.noSuch("P14 then(9, 41)", () -> x.then(9, 41));
        DUE.illegal("P14 then(0, 41)", () -> x.then(0, 41));
        DUE.illegal("P14 then(0, -1)", () -> x.then(0, -1));
        DUE.is("P14 nothing changes", 0, () -> x.count(3) + x.count(10) + x.count(11));
        x.rest(0, true);
        DUE.is("P14 she goes on resting", 0, () -> x.then(4, 3));
    }

    private static void sky() {
        BlueBag x = Due.told("sky 3 1;rinse 0;fades 0;bound 10;knobs 2;old 2 0;peg 1;blue 2 8;");
        x.days(1);
        DUE.is("P15 KNOBS now", 1, () -> x.sky(0, 0));
        DUE.is("P15 KNOBS", 0, () -> x.sky(1, 0));
        DUE.is("P15 KNOBS", 0, () -> x.sky(40, 0));
        DUE.is("P15 MARTINS now", 0, () -> x.sky(0, 1));
        DUE.is("P15 MARTINS", 1, () -> x.sky(1, 1));
        DUE.is("P15 MARTINS in all", 40, () -> x.sky(40, 1));
        DUE.is("P15 UNEVEN without the peg's cell", 1, () -> x.sky(0, 2));
        DUE.is("P15 UNEVEN", 6, () -> x.sky(1, 2));
        DUE.is("P15 DEEPEST", 2, () -> x.sky(0, 3));
        DUE.is("P15 DEEPEST", 0, () -> x.sky(1, 3));
        DUE.is("P15 PALEST", 0, () -> x.sky(0, 4));
        DUE.is("P15 PALEST", 2, () -> x.sky(1, 4));
        DUE.noSuch("P15 what 5", () -> x.sky(0, 5));
        DUE.noSuch("P15 what -1", () -> x.sky(0, -1));
        DUE.noSuch("P15 what ahead of days", () -> x.sky(41, 5));
        DUE.illegal("P15 days 41", () -> x.sky(41, 0));
        DUE.illegal("P15 days -1", () -> x.sky(-1, 4));
        BlueBag y = Due.told("sky 2 2;peg 0 1 2 3;");
        for (int what = 2; what <= 4; what++) {
            int w = what;
            DUE.is("P15 all have a PEG, what " + w, -1, () -> y.sky(1, w));
        }
        BlueBag z = Due.told("sky 2 2;peg 0;blue 1 5;blue 2 5;blue 3 5;");
        DUE.is("P15 DEEPEST of like ones", 1, () -> z.sky(0, 3));
        DUE.is("P15 PALEST of like ones", 1, () -> z.sky(0, 4));
        DUE.is("P15 UNEVEN of like ones", 0, () -> z.sky(0, 2));
    }

    private static void overdone() {
        BlueBag x = Due.told("sky 6 5;rinse 1;fades 0;bound 10;blue 29 13;blue 0 11;knobs 0;");
        DUE.is("P16 the first DAWN", 1 | 1 << 29, () -> x.overdone(1));
        DUE.is("P16 the second", 1 << 29, () -> x.overdone(2));
        DUE.is("P16 the third", 1 << 29, () -> x.overdone(3));
        DUE.is("P16 the fourth", 0, () -> x.overdone(4));
        DUE.is("P16 the last", 0, () -> x.overdone(40));
        DUE.illegal("P16 overdone(0)", () -> x.overdone(0));
        DUE.illegal("P16 overdone(41)", () -> x.overdone(41));
        BlueBag y = Due.told("sky 2 1;rinse 0;fades 0;bound 39;dyes 1;knobs 99;old 0 0;");
        DUE.is("P17 at the 40th DAWN", 40, () -> y.first(0));
        DUE.is("P17 never", -1, () -> y.first(1));
        DUE.is("P16 the 40th", 1, () -> y.overdone(40));
        DUE.is("P16 the 39th", 0, () -> y.overdone(39));
        DUE.is("P17 at the first DAWN", 1, () -> x.first(29));
        DUE.noSuch("P17 first(2)", () -> y.first(2));
        DUE.noSuch("P17 first(-1)", () -> y.first(-1));
        BlueBag z = Due.told("sky 2 1;rinse 0;fades 0;bound 40;dyes 1;knobs 99;old 0 0;");
        DUE.is("P17 not within 40", -1, () -> z.first(0));
    }

    private static void spent() {
        DUE.is("P18 now", 0, () -> Due.told("knobs 0;").spent());
        DUE.is("P18 never", -1, () -> Due.told("knobs 1;").spent());
        DUE.is("P18 behind 1", 1, () -> Due.told("knobs 1;girl 0 0;").spent());
        DUE.is("P18 two girls", 3, () -> Due.told("knobs 5;girl 0 0;girl 0 0;").spent());
        DUE.is("P18 behind 40", 40, () -> Due.told("knobs 40;girl 0 0;").spent());
        DUE.is("P18 not within 40", -1, () -> Due.told("knobs 41;girl 0 0;").spent());
    }

    private static void band() {
        BlueBag x = Due.told("sky 2 3;rinse 0;fades (row=1)*5;blue 0 5;blue 1 5;blue 2 9;blue 3 9;blue 5 10;");
        DUE.is("P27 now", 1, () -> x.band(0));
        DUE.is("P27 of like ones the first", 0, () -> x.band(1));
        DUE.is("P27 behind 40", 0, () -> x.band(40));
        DUE.illegal("P27 band(-1)", () -> x.band(-1));
        DUE.illegal("P27 band(41)", () -> x.band(41));
        DUE.is("P27 all rows alike", 0, () -> new BlueBag().band(3));
        DUE.is("P27 the last row", 4, () -> Due.told("sky 1 5;blue 4 9;").band(0));
    }

    private static void steady() {
        DUE.is("P28 from the first day", 1, () -> new BlueBag().steady());
        DUE.is("P28 when nothing is left", 4, () -> Due.told("sky 1 1;rinse 0;fades 1;blue 0 3;").steady());
        DUE.is("P28 behind 40", 40, () -> Due.told("sky 1 1;rinse 0;fades 1;blue 0 39;").steady());
        DUE.is("P28 not within 40", -1, () -> Due.told("sky 1 1;rinse 0;fades 1;blue 0 40;").steady());
        DUE.is("P28 as much comes as goes", 1, () -> Due.told("sky 1 1;rinse 5;fades 0;dyes 5;girl 0 0;").steady());
    }

    public static void main(String[] args) {
        then();
        sky();
        overdone();
        spent();
        band();
        steady();
        DUE.end();
    }
}
