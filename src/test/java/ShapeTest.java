/** Promises 19 to 22, 29, 30: streaks, patches, ways, steps. */
public final class ShapeTest {
    private static final Due DUE = new Due("ShapeTest");

    private static void streak() {
        BlueBag x = Due.told("sky 4 2;blue 0 1;blue 1 2;blue 2 2;blue 3 3;blue 4 3;blue 5 3;blue 6 1;blue 7 1;");
        DUE.is("P19 how many", 2, () -> x.streak(0));
        DUE.is("P19 of like ones the least", 1, () -> x.streak(1));
        BlueBag y = Due.told("sky 4 2;blue 0 1;blue 1 2;blue 2 2;blue 3 3;blue 4 3;blue 5 3;blue 6 3;blue 7 1;");
        DUE.is("P19 not over the end of a row", 3, () -> y.streak(0));
        DUE.is("P19 the first of them", 4, () -> y.streak(1));
        DUE.is("P19 a whole row", 6, () -> Due.told("sky 6 5;blue 0 1;").streak(0));
        DUE.is("P19 the second row", 6, () -> Due.told("sky 6 5;blue 0 1;").streak(1));
        DUE.is("P19 one cell alone", 1, () -> Due.told("sky 1 5;").streak(0));
        DUE.is("P19 a PEG's cell has BLUE 0", 3, () -> Due.told("sky 3 1;peg 1;").streak(0));
        DUE.noSuch("P19 streak(2)", () -> x.streak(2));
        DUE.noSuch("P19 streak(-1)", () -> x.streak(-1));
    }

    private static void patch() {
        BlueBag x = Due.told("sky 3 2;blue 0 10;blue 1 13;blue 2 16;blue 3 20;blue 4 30;blue 5 90;");
        DUE.is("P20 by 0", 1, () -> x.patch(0, 0));
        DUE.is("P20 by 2", 1, () -> x.patch(0, 2));
        DUE.is("P20 step by step by 3", 0b111, () -> x.patch(0, 3));
        DUE.is("P20 from its end", 0b111, () -> x.patch(2, 3));
        DUE.is("P20 by 10", 0b011111, () -> x.patch(2, 10));
        DUE.is("P20 by 59", 0b011111, () -> x.patch(0, 59));
        DUE.is("P20 by 60", 0b111111, () -> x.patch(5, 60));
        DUE.is("P20 by 99", 0b111111, () -> x.patch(5, 99));
        DUE.noSuch("P20 no such cell", () -> x.patch(6, 0));
        DUE.noSuch("P20 no such cell, ahead", () -> x.patch(-1, 100));
        DUE.illegal("P20 off 100", () -> x.patch(0, 100));
        DUE.illegal("P20 off -1", () -> x.patch(0, -1));
        DUE.is("P21 by 0", 6, () -> x.patches(0));
        DUE.is("P21 by 3", 4, () -> x.patches(3));
        DUE.is("P21 by 10", 2, () -> x.patches(10));
        DUE.is("P21 by 99", 1, () -> x.patches(99));
        DUE.illegal("P21 by 100", () -> x.patches(100));
        DUE.illegal("P21 by -1", () -> x.patches(-1));
        DUE.is("P20 all of the largest", (1 << 30) - 1, () -> Due.told("sky 6 5;").patch(17, 0));
        DUE.is("P21 not over the end of a row", 2, () -> Due.told("sky 2 3;blue 1 9;blue 0 9;").patches(0));
        BlueBag y = Due.told("sky 2 2;blue 0 5;blue 3 5;");
        DUE.is("P21 not by the corner", 4, () -> y.patches(0));
    }

    private static void way() {
        BlueBag x = Due.told("sky 3 3;peg 1 4;");
        DUE.is("P22 around", 6, () -> x.way(0, 2));
        DUE.is("P22 back", 6, () -> x.way(2, 0));
        DUE.is("P22 straight", 2, () -> x.way(0, 6));
        DUE.is("P22 to itself", 0, () -> x.way(0, 0));
        DUE.is("P22 to itself with a PEG", -1, () -> x.way(1, 1));
        DUE.is("P22 to a PEG", -1, () -> x.way(0, 1));
        DUE.is("P22 from a PEG", -1, () -> x.way(1, 0));
        DUE.is("P22 none", -1, () -> Due.told("sky 3 2;peg 1 4;").way(0, 2));
        DUE.is("P22 not over the end of a row", 3, () -> new BlueBag().way(2, 3));
        // five to the right, down two rows, five to the left, down two rows
        BlueBag y = Due.told("sky 6 5;peg 6 7 8 9 10 19 20 21 22 23;");
        DUE.is("P22 a long way", 14, () -> y.way(0, 24));
        DUE.is("P22 a longer one", 19, () -> y.way(0, 29));
        DUE.noSuch("P22 no such cell", () -> x.way(9, 0));
        DUE.noSuch("P22 no such other", () -> x.way(0, -1));
    }

    private static void steps() {
        BlueBag x = Due.told("sky 4 3;girl 0 0;girl 0 11;old 0 6;peg 1 4;");
        DUE.is("P29 to where she is", 0, () -> x.steps(0, 0));
        DUE.is("P29 across, pegs don't matter", 5, () -> x.steps(0, 11));
        DUE.is("P29 from another girl", 1, () -> x.steps(2, 2));
        DUE.is("P29 over rows", 3, () -> x.steps(2, 8));
        DUE.noSuch("P29 no such girl", () -> x.steps(3, 0));
        DUE.noSuch("P29 no such girl", () -> x.steps(-1, 0));
        DUE.noSuch("P29 no such cell", () -> x.steps(0, 12));
        DUE.noSuch("P29 no such cell", () -> x.steps(0, -1));
        DUE.is("P30 nearest", 2, () -> x.nearest(2));
        DUE.is("P30 of like ones the least", 0, () -> x.nearest(4));
        DUE.is("P30 of like ones the least", 1, () -> x.nearest(10));
        DUE.is("P30 at her cell", 1, () -> x.nearest(11));
        DUE.noSuch("P30 no such cell", () -> x.nearest(12));
        DUE.noSuch("P30 no such cell", () -> x.nearest(-1));
        DUE.is("P30 no girls", -1, () -> new BlueBag().nearest(0));
        x.rest(2, true);
        DUE.is("P30 resting does not matter", 2, () -> x.nearest(2));
        x.go(2, 8);
        DUE.is("P29 from where she went", 0, () -> x.steps(2, 8));
    }

    public static void main(String[] args) {
        streak();
        patch();
        way();
        steps();
        DUE.end();
    }
}
