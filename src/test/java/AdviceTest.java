/** Promises 23 to 26 and 31: who should rest, where to stand, how often to swish, who is sent, who is missed. */
public final class AdviceTest {
    private static final Due DUE = new Due("AdviceTest");
    private static final String STILL = "rinse 0;fades 0;";

    private static void toRest() {
        DUE.is("P23 without girls", -1, () -> new BlueBag().toRest());
        DUE.is("P23 the only one", 0, () -> Due.told("sky 2 1;" + STILL + "girl 5 0;").toRest());
        DUE.is("P23 none: it is even", -1, () -> Due.told("sky 2 1;" + STILL + "girl 5 0;girl 5 1;").toRest());
        DUE.is("P23 the third", 2, () -> Due.told("sky 2 1;" + STILL + "girl 5 0;girl 5 1;old 0 0;").toRest());
        DUE.is("P23 of like ones the least", 0, () -> Due.told("sky 3 1;" + STILL + "old 5 0;old 5 0;").toRest());
        DUE.is("P23 none: no less", -1, () -> Due.told("sky 3 1;" + STILL + "old 5 0;old 5 1;").toRest());
        DUE.is("P23 all have a PEG", -1, () -> Due.told("sky 2 1;peg 0 1;girl 5 0;").toRest());
        DUE.is("P23 none: without a KNOB", -1, () -> Due.told("sky 2 1;" + STILL + "knobs 0;girl 5 0;").toRest());
        BlueBag x = Due.told("sky 3 1;" + STILL + "old 5 0;old 5 0;");
        x.rest(0, true);
        DUE.is("P23 not who is RESTING", 1, x::toRest);
        // her knob is then the other one's, whose cell is as blue
        DUE.is("P23 the knob goes on", -1, () -> Due.told("sky 2 1;" + STILL + "knobs 1;old 5 0;old 5 1;").toRest());
        DUE.is("P23 the knob goes to a lesser one", 0, () -> Due.told("sky 2 1;" + STILL + "knobs 1;old 5 0;old 1 1;").toRest());
    }

    private static void toStand() {
        BlueBag x = Due.told("sky 3 1;" + STILL + "blue 0 20;blue 1 20;old 5 0;");
        DUE.is("P24 the cell", 2, () -> x.toStand(0, 0));
        DUE.is("P24 UNEVEN", 7, () -> x.toStand(0, 1));
        DUE.noSuch("P24 no such girl", () -> x.toStand(1, 0));
        DUE.noSuch("P24 no such girl", () -> x.toStand(-1, 0));
        DUE.noSuch("P24 what 2", () -> x.toStand(0, 2));
        DUE.noSuch("P24 what -1", () -> x.toStand(0, -1));
        DUE.is("P24 where she stands stays", 0, () -> x.girl(0, 1));
        BlueBag y = Due.told("sky 3 1;" + STILL + "old 5 2;");
        DUE.is("P24 of like ones the least", 0, () -> y.toStand(0, 0));
        DUE.is("P24 UNEVEN", 13, () -> y.toStand(0, 1));
        BlueBag z = Due.told("sky 2 1;peg 0 1;girl 1 1;");
        DUE.is("P24 all have a PEG: the least", 0, () -> z.toStand(0, 0));
        DUE.is("P24 all have a PEG", -1, () -> z.toStand(0, 1));
        BlueBag v = Due.told("sky 3 1;" + STILL + "blue 0 20;peg 2;old 5 0;");
        DUE.is("P24 a PEG's cell, where nothing takes, is as good as any", 1, () -> v.toStand(0, 0));
        DUE.is("P24 UNEVEN", 7, () -> v.toStand(0, 1));
        BlueBag w = Due.told("sky 3 1;" + STILL + "peg 2;old 5 0;");
        DUE.is("P24 at the PEG she dyes nothing", 2, () -> w.toStand(0, 0));
        DUE.is("P24 UNEVEN", 0, () -> w.toStand(0, 1));
    }

    private static void toSwish() {
        BlueBag x = Due.told("blue 4 10;girl 5 4;");
        int[][] cases = {{0, 0}, {10, 0}, {11, 1}, {23, 1}, {24, 2}, {88, 6}, {89, 7}, {99, 7}};
        for (int[] c : cases) DUE.is("P25 toSwish(0, " + c[0] + ")", c[1], () -> x.toSwish(0, c[0]));
        DUE.illegal("P25 blue 100", () -> x.toSwish(0, 100));
        DUE.illegal("P25 blue -1", () -> x.toSwish(0, -1));
        DUE.noSuch("P25 no such girl, ahead", () -> x.toSwish(1, 100));
        DUE.noSuch("P25 no such girl", () -> x.toSwish(-1, 0));
        DUE.is("P25 nothing changes", 10, () -> x.cell(4, 0));
        DUE.is("P25 no KNOB is taken", 20, () -> x.count(4));
        BlueBag y = Due.told("old 0 4;knobs 0;");
        DUE.is("P25 twenty times, without KNOBS", 20, () -> y.toSwish(0, 60));
        DUE.is("P25 none", -1, () -> y.toSwish(0, 61));
        DUE.is("P25 'left' is all KNOBS", 3, () -> Due.told("old 0 4;knobs 7;dyes left;").toSwish(0, 21));
        DUE.is("P25 'left' is all KNOBS", 4, () -> Due.told("old 0 4;knobs 7;dyes left;").toSwish(0, 22));
        // 4, then 6 by the 2 beside, then 9 by the 5 beside
        DUE.is("P25 what is beside goes on", 3, () -> Due.told("sky 2 1;girl 0 0;dyes beside+4;").toSwish(0, 19));
        DUE.is("P25 what is beside goes on", 4, () -> Due.told("sky 2 1;girl 0 0;dyes beside+4;").toSwish(0, 20));
        BlueBag z = Due.told("peg 4;girl 5 4;");
        DUE.is("P25 at a PEG 0", 0, () -> z.toSwish(0, 0));
        DUE.is("P25 at a PEG none", -1, () -> z.toSwish(0, 1));
        z.go(0, 0);
        z.rest(0, true);
        DUE.is("P25 RESTING does not matter", 1, () -> z.toSwish(0, 13));
    }

    private static void sent() {
        BlueBag x = Due.told("girl 0 1;girl 0 3;peg 4 0;");
        DUE.is("P26 no cells", 0, () -> x.sent(0, -1));
        DUE.is("P26 one cell", 1, () -> x.sent(1, -1));
        DUE.is("P26 one cell, of like ones the first", 0, () -> x.sent(1, 0));
        DUE.is("P26 two cells", 2, () -> x.sent(17, -1));
        DUE.is("P26 of like rows the first", 0, () -> x.sent(17, 0));
        DUE.is("P26 of like rows the first", 1, () -> x.sent(17, 4));
        DUE.is("P26 fewer girls", -2, () -> x.sent(7, -1));
        DUE.is("P26 fewer girls", -2, () -> x.sent(7, 1));
        DUE.noSuch("P26 none of these", () -> x.sent(17, 1));
        DUE.noSuch("P26 none of these, fewer girls", () -> x.sent(7, 3));
        DUE.noSuch("P26 no such cell", () -> x.sent(17, 9));
        DUE.noSuch("P26 no such cell", () -> x.sent(17, -2));
        DUE.noSuch("P26 no such cell by its bits", () -> x.sent(17, 32));
        DUE.illegal("P26 no bits of cells", () -> x.sent(512, -1));
        DUE.illegal("P26 no bits of cells", () -> x.sent(-1, -1));
        DUE.illegal("P26 no bits of cells, ahead", () -> x.sent(Integer.MIN_VALUE, 9));
        DUE.illegal("P26 seven cells", () -> x.sent(127, -1));
        BlueBag y = Due.told("sky 6 1;girl 0 5;girl 0 2;");
        DUE.is("P26 not in their order", 0, () -> y.sent(36, -1));
        DUE.is("P26 not in their order", 1, () -> y.sent(36, 2));
        DUE.is("P26 not in their order", 0, () -> y.sent(36, 5));
        // the nearest for the first is not the best for all
        BlueBag z = Due.told("sky 6 1;girl 0 2;girl 0 0;");
        DUE.is("P26 all together", 3, () -> z.sent(1 << 1 | 1 << 4, -1));
        DUE.is("P26 all together", 1, () -> z.sent(1 << 1 | 1 << 4, 1));
        DUE.is("P26 all together", 0, () -> z.sent(1 << 1 | 1 << 4, 4));
        BlueBag six = Due.told("sky 6 5;girl 0 29;girl 0 28;girl 0 27;girl 0 26;girl 0 25;girl 0 24;");
        DUE.is("P26 six girls for six cells", 24, () -> six.sent(63, -1));
        DUE.is("P26 each straight up", 5, () -> six.sent(63, 0));
        DUE.is("P26 each straight up", 0, () -> six.sent(63, 5));
        DUE.is("P26 no girls", -2, () -> new BlueBag().sent(1, 0));
        DUE.is("P26 no girls, no cells", 0, () -> new BlueBag().sent(0, -1));
        DUE.noSuch("P26 none of no cells", () -> new BlueBag().sent(0, 0));
        DUE.illegal("P26 above the largest sky", () -> six.sent(1 << 30, -1));
    }

    private static void missed() {
        BlueBag x = Due.told("girl 5 4;old 0 0;");
        // 9 and four times 4, and 1 at cell 0
        DUE.is("P31 missed(0)", 25, () -> x.missed(0));
        DUE.is("P31 missed(1)", 1, () -> x.missed(1));
        x.rest(0, true);
        DUE.is("P31 whatever she is now", 25, () -> x.missed(0));
        DUE.noSuch("P31 no such girl", () -> x.missed(2));
        DUE.noSuch("P31 no such girl", () -> x.missed(-1));
        // her knob would be the other one's
        DUE.is("P31 below 0", -6, () -> Due.told("sky 2 1;" + STILL + "knobs 1;old 0 0;old 3 1;").missed(0));
        DUE.is("P31 no KNOB for her", 0, () -> Due.told("sky 2 1;" + STILL + "knobs 1;old 0 0;old 3 1;").missed(1));
    }

    public static void main(String[] args) {
        toRest();
        toStand();
        toSwish();
        sent();
        missed();
        DUE.end();
    }
}
