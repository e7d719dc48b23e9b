/**
 * The boundary cases of what is asked, promises 14 to 37: each test names in quotes the sentence that it holds the class to.
 */
public final class EdgeAskTest {
    private static final Due DUE = new Due("EdgeAskTest");
    /** Nothing is rinsed and nothing fades. */
    private static final String STILL = "rinse 0;fades 0;";
    /** An old girl who gives CELL 0 of 2 by 1 one BLUE each DAY. */
    private static final String BY_ONE = "sky 2 1;" + STILL + "knobs 99;dyes 1;old 0 0;";

    private static void told(String sentence, long want, String text, Asked asked) {
        BlueBag x = Due.told(text);
        String before = Due.state(x);
        DUE.is(sentence + " of: " + text, want, () -> asked.of(x));
        DUE.like(sentence + " changes nothing of: " + text, before, Due.state(x));
    }

    interface Asked {
        long of(BlueBag x);
    }

    // ---- if only days go by

    private static void then() {
        String s = "'BLUE of a CELL behind so many DAYS (0 to 40)'";
        told(s + " 0", 7, "sky 2 1;blue 1 7;", x -> x.then(1, 0));
        told(s + " 1", 1, BY_ONE, x -> x.then(0, 1));
        told(s + " 39", 39, BY_ONE, x -> x.then(0, 39));
        told(s + " 40", 40, BY_ONE, x -> x.then(0, 40));
        told(s + " of the other CELL", 0, BY_ONE, x -> x.then(1, 40));
        BlueBag x = Due.told(BY_ONE);
        for (int days : new int[] {-1, 41, Integer.MAX_VALUE, Integer.MIN_VALUE}) {
            DUE.illegal("P14 'not 0 to 40' " + days, () -> x.then(0, days));
            DUE.illegal("P15 'not 0 to 40' " + days, () -> x.sky(days, 0));
            DUE.illegal("P27 'not 0 to 40' " + days, () -> x.band(days));
            DUE.illegal("P16 'not 1 to 40' " + days, () -> x.overdone(days));
            DUE.noSuch("P14 '(behind NoSuchElementException)' " + days, () -> x.then(2, days));
            DUE.noSuch("P15 '(behind that)' " + days, () -> x.sky(days, 5));
            DUE.noSuch("P15 '(behind that)' " + days, () -> x.sky(days, -1));
        }
        DUE.illegal("P16 'not 1 to 40' 0", () -> x.overdone(0));
        DUE.noSuch("P14 'no such CELL'", () -> x.then(-1, 0));
        DUE.noSuch("P15 'another what'", () -> x.sky(0, 5));
        DUE.noSuch("P15 'another what'", () -> x.sky(40, -1));
    }

    private static void knobsAndMartins() {
        told("P15 KNOBS behind 0", 3, "knobs 3;girl 0 0;", x -> x.sky(0, 0));
        told("P15 KNOBS behind 3", 0, "knobs 3;girl 0 0;", x -> x.sky(3, 0));
        told("P15 KNOBS behind 40", 59, BY_ONE, x -> x.sky(40, 0));
        told("P15 'MARTINS in all' behind 0", 0, "sky 1 1;" + STILL + "bound 1;blue 0 2;", x -> x.sky(0, 1));
        told("P15 'MARTINS in all' behind 40", 40, "sky 1 1;" + STILL + "bound 1;blue 0 2;", x -> x.sky(40, 1));
        BlueBag y = Due.told("sky 1 1;" + STILL + "bound 1;blue 0 2;");
        y.days(5);
        DUE.is("P15 'MARTINS in all', those of before, too", 45, () -> y.sky(40, 1));
    }

    private static void overdoneAndFirst() {
        String s = "'OVERDONE at the k-th DAWN from now (1 to 40)'";
        String late = BY_ONE + "bound 39;";
        told(s + " 40", 1, late, x -> x.overdone(40));
        told(s + " 39", 0, late, x -> x.overdone(39));
        told(s + " 1", 3, "sky 2 1;blue 0 61;blue 1 61;", x -> x.overdone(1));
        told(s + " 2", 0, "sky 2 1;blue 0 61;blue 1 61;", x -> x.overdone(2));
        told(s + " the last CELL", 1 << 29, "sky 6 5;blue 29 61;", x -> x.overdone(1));
        String first = "'FIRST: at which DAWN from now (1 to 40) a CELL is OVERDONE first; none'";
        told(first + " 40", 40, late, x -> x.first(0));
        told(first + " behind 40", -1, BY_ONE + "bound 40;", x -> x.first(0));
        told(first + " 1", 1, "sky 2 1;blue 1 61;", x -> x.first(1));
        told(first + " the other one", -1, "sky 2 1;blue 1 61;", x -> x.first(0));
        told(first + " with a PEG", -1, "sky 1 1;bound 1;peg 0;girl 9 0;", x -> x.first(0));
        BlueBag x = Due.told(late);
        x.days(10);
        DUE.is(first + " 'from now'", 30, () -> x.first(0));
        DUE.is(s + " 'from now'", 1, () -> x.overdone(30));
        DUE.noSuch("P17 'no such CELL'", () -> x.first(2));
        DUE.noSuch("P17 'no such CELL'", () -> x.first(-1));
    }

    private static void uneven() {
        String s = "'by how much the greatest BLUE of CELLS without a PEG is more than the least; none, if all have one'";
        told(s + " one CELL", 0, "sky 1 1;blue 0 99;", x -> x.sky(0, 2));
        told(s + " all of like BLUE", 0, "sky 2 2;blue 0 5;blue 1 5;blue 2 5;blue 3 5;", x -> x.sky(0, 2));
        told(s + " the most", 99, "sky 2 1;blue 0 99;", x -> x.sky(0, 2));
        told(s + " not a PEG's 0", 1, "sky 3 1;blue 0 8;blue 1 9;peg 2;", x -> x.sky(0, 2));
        told(s + " but one", 0, "sky 3 1;blue 1 9;peg 0 2;", x -> x.sky(0, 2));
        told(s + " behind 40", 40, BY_ONE, x -> x.sky(40, 2));
        String all = "sky 2 1;peg 0 1;girl 9 0;";
        for (int what = 2; what <= 4; what++) {
            int w = what;
            told(s + " what " + w, -1, all, x -> x.sky(0, w));
            told(s + " what " + w + " behind 40", -1, all, x -> x.sky(40, w));
        }
        String of = "'DEEPEST, PALEST of them behind so many DAYS (0 to 40; of like ones the least); none'";
        told(of + " of like ones", 1, "sky 4 1;blue 1 9;blue 2 9;blue 0 8;blue 3 8;", x -> x.sky(0, 3));
        told(of + " of like ones", 0, "sky 4 1;blue 1 9;blue 2 9;blue 0 8;blue 3 8;", x -> x.sky(0, 4));
        told(of + " of the PEGS none", 1, "sky 4 1;peg 0;blue 1 0;blue 2 9;blue 3 9;", x -> x.sky(0, 4));
        told(of + " of 0, behind a PEG", 1, "sky 2 1;peg 0;", x -> x.sky(0, 3));
        told(of + " the last", 29, "sky 6 5;blue 29 1;", x -> x.sky(0, 3));
        told(of + " behind 40", 1, BY_ONE + "blue 1 39;", x -> x.sky(39, 3) == 0 ? x.sky(40, 4) : -9);
    }

    private static void spent() {
        String s = "'SPENT: behind how many DAYS (0 to 40) there is no KNOB first; none'";
        told(s + " 0", 0, "knobs 0;girl 0 0;", x -> x.spent());
        told(s + " 1", 1, "knobs 1;girl 0 0;girl 0 0;", x -> x.spent());
        told(s + " 40", 40, "knobs 40;girl 0 0;", x -> x.spent());
        told(s + " behind 40", -1, "knobs 41;girl 0 0;", x -> x.spent());
        told(s + " without GIRLS", -1, "knobs 1;", x -> x.spent());
        BlueBag x = Due.told("knobs 1;girl 0 0;");
        x.rest(0, true);
        DUE.is(s + " who is RESTING", -1, x::spent);
    }

    // ---- streaks, patches, ways

    private static void streak() {
        String s = "'the most CELLS side by side in one row that have like BLUE'";
        told(s + " one", 1, "sky 1 5;", x -> x.streak(0));
        told(s + " one, of like ones the least", 0, "sky 1 5;", x -> x.streak(1));
        told(s + " six", 6, "sky 6 1;", x -> x.streak(0));
        told(s + " all unlike", 1, "sky 3 1;blue 1 1;blue 2 2;", x -> x.streak(0));
        told(s + " not from row to row", 2, "sky 2 2;", x -> x.streak(0));
        told(s + " not in a column", 1, "sky 2 2;blue 0 1;blue 2 1;", x -> x.streak(0));
        told(s + " not apart", 1, "sky 3 1;blue 1 1;", x -> x.streak(0));
        told(s + " of like ones the least CELL", 1, "sky 3 2;blue 0 9;blue 5 9;", x -> x.streak(1));
        told(s + " the last row", 27, "sky 6 5;blue 0 1;blue 1 2;blue 2 3;blue 3 4;blue 4 5;blue 5 6;blue 7 1;blue 9 1;blue 11 1;"
            + "blue 13 1;blue 15 1;blue 17 1;blue 19 1;blue 21 1;blue 23 1;blue 25 1;blue 26 2;", x -> x.streak(1));
        DUE.noSuch("P19 'another what'", () -> new BlueBag().streak(2));
        DUE.noSuch("P19 'another what'", () -> new BlueBag().streak(-1));
    }

    private static void patch() {
        String s = "'none of which differ by more than so much (0 to 99) from the one ahead of it (itself, too; bits)'";
        String row = "sky 4 1;blue 1 1;blue 2 3;blue 3 99;";
        told(s + " by 0, itself", 1, row, x -> x.patch(0, 0));
        told(s + " just so much", 3, row, x -> x.patch(0, 1));
        told(s + " from the one ahead of it, not from the first", 7, row, x -> x.patch(0, 2));
        told(s + " one less", 7, row, x -> x.patch(2, 95));
        told(s + " just so much", 15, row, x -> x.patch(3, 96));
        told(s + " by 99", 3, "sky 2 1;blue 0 99;", x -> x.patch(0, 99));
        told(s + " by 98", 1, "sky 2 1;blue 0 99;", x -> x.patch(0, 98));
        told(s + " not by a corner", 1, "sky 2 2;blue 1 9;blue 2 9;", x -> x.patch(0, 0));
        // a snake of 1 from CELL 0 to CELL 24, row by row
        String snake = "sky 5 5;blue 5 1;blue 6 1;blue 7 1;blue 8 1;blue 16 1;blue 17 1;blue 18 1;blue 19 1;";
        told(s + " round about", (1 << 25) - 1 - 0xf01e0, snake, x -> x.patch(0, 0));
        told("P21 'how many there are of them'", 3, snake, x -> x.patches(0));
        told("P21 one", 1, snake, x -> x.patches(1));
        told("P21 each for itself", 30, chess(), x -> x.patches(0));
        told("P21 all one", 1, "sky 6 5;", x -> x.patches(0));
        told("P21 by 99", 1, chess(), x -> x.patches(99));
        told("P20 all", (1 << 30) - 1, chess(), x -> x.patch(29, 1));
        BlueBag x = Due.told(row);
        for (int off : new int[] {-1, 100, Integer.MAX_VALUE, Integer.MIN_VALUE}) {
            DUE.illegal("P20 'not 0 to 99' " + off, () -> x.patch(0, off));
            DUE.illegal("P21 'not 0 to 99' " + off, () -> x.patches(off));
            DUE.noSuch("P20 '(behind NoSuchElementException)' " + off, () -> x.patch(4, off));
        }
        DUE.noSuch("P20 'no such CELL'", () -> x.patch(-1, 0));
    }

    private static String chess() {
        StringBuilder text = new StringBuilder("sky 6 5;");
        for (int c = 0; c < 30; c++) if ((c / 6 + c % 6) % 2 == 1) text.append("blue ").append(c).append(" 1;");
        return text.toString();
    }

    private static void way() {
        String s = "'over CELLS beside each other without PEGS (these two, too): the fewest steps; none'";
        told(s + " '(0 to itself, without a PEG)'", 0, "sky 1 1;", x -> x.way(0, 0));
        told(s + " '(0 to itself, without a PEG)'", -1, "sky 1 1;peg 0;", x -> x.way(0, 0));
        told(s + " from a PEG", -1, "sky 2 1;peg 0;", x -> x.way(0, 1));
        told(s + " to a PEG", -1, "sky 2 1;peg 1;", x -> x.way(0, 1));
        told(s + " from corner to corner", 9, "sky 6 5;", x -> x.way(0, 29));
        told(s + " back", 9, "sky 6 5;", x -> x.way(29, 0));
        told(s + " cut off", -1, "sky 3 1;peg 1;", x -> x.way(0, 2));
        told(s + " a corner, shut in", -1, "sky 3 3;peg 5 7;", x -> x.way(0, 8));
        told(s + " not by the corner", -1, "sky 2 2;peg 1 2;", x -> x.way(0, 3));
        // up and down the columns: 0 6 12 18 24 25 26 20 14 8 2 3 4 10 16 22 28
        told(s + " up and down", 16, "sky 6 5;peg 1 7 13 19 9 15 21 27 5 11 17 23 29;", x -> x.way(0, 28));
        BlueBag x = new BlueBag();
        DUE.noSuch("P22 'no such CELL'", () -> x.way(9, 0));
        DUE.noSuch("P22 'no such CELL'", () -> x.way(0, 9));
        DUE.noSuch("P22 'no such CELL'", () -> x.way(-1, 0));
        DUE.noSuch("P22 'no such CELL'", () -> x.way(0, -1));
    }

    // ---- to rest, to stand, to swish

    private static void toRest() {
        String s = "'UNEVEN behind it would be least, if it is less than without (of like ones the least); none'";
        told(s + " no GIRLS", -1, "", x -> x.toRest());
        told(s + " just as much", -1, "sky 2 1;" + STILL + "dyes 0;girl 0 0;", x -> x.toRest());
        told(s + " less by 1", 0, "sky 2 1;" + STILL + "dyes 1;girl 0 0;", x -> x.toRest());
        told(s + " more", -1, "sky 2 1;" + STILL + "dyes 1;blue 1 1;old 0 0;", x -> x.toRest());
        told(s + " of like ones the least", 1, "sky 4 1;" + STILL + "dyes skill;old 1 0;old 2 1;old 2 1;", x -> x.toRest());
        told(s + " the sixth", 5, "sky 2 1;" + STILL + "dyes skill;old 1 0;old 1 0;old 1 0;old 1 0;old 1 0;old 5 0;", x -> x.toRest());
        told(s + " all have a PEG", -1, "sky 1 1;peg 0;girl 9 0;", x -> x.toRest());
        BlueBag x = Due.told("sky 2 1;" + STILL + "dyes skill;old 9 0;old 1 0;");
        x.rest(0, true);
        DUE.is("'the GIRL who isn't RESTING'", 1, x::toRest);
        x.rest(1, true);
        DUE.is("'the GIRL who isn't RESTING', none", -1, x::toRest);
    }

    private static void toStand() {
        String s = "'the CELL at which UNEVEN behind the next DAY would be least (of like ones the least)'";
        told(s + " one CELL", 0, "sky 1 1;girl 9 0;", x -> x.toStand(0, 0));
        told(s + " one CELL", 0, "sky 1 1;girl 9 0;", x -> x.toStand(0, 1));
        told(s + " where she is", 1, "sky 2 1;" + STILL + "blue 0 5;dyes 5;old 0 1;", x -> x.toStand(0, 0));
        told(s + " of like ones", 0, "sky 3 1;" + STILL + "dyes 5;old 0 2;", x -> x.toStand(0, 0));
        told(s + " the last CELL", 29, full29(), x -> x.toStand(0, 0));
        told(s + " the last CELL", 0, full29(), x -> x.toStand(0, 1));
        told(s + " no KNOB: all alike", 0, "sky 3 1;knobs 0;girl 9 2;", x -> x.toStand(0, 0));
        told(s + " 'all have a PEG'", -1, "sky 2 1;peg 0 1;girl 9 1;", x -> x.toStand(0, 1));
        told(s + " 'all have a PEG': all alike", 0, "sky 2 1;peg 0 1;girl 9 1;", x -> x.toStand(0, 0));
        BlueBag x = Due.told("sky 3 1;" + STILL + "blue 0 5;blue 1 5;dyes 5;old 0 2;");
        x.rest(0, true);
        DUE.is(s + " RESTING: all alike", 0, () -> x.toStand(0, 0));
        DUE.is(s + " RESTING: all alike", 5, () -> x.toStand(0, 1));
        DUE.noSuch("P24 'also another what'", () -> x.toStand(0, 2));
        DUE.noSuch("P24 'also another what'", () -> x.toStand(0, -1));
        DUE.noSuch("P24 'no such GIRL'", () -> x.toStand(1, 0));
        DUE.noSuch("P24 'no such GIRL'", () -> x.toStand(-1, 0));
    }

    private static String full29() {
        StringBuilder text = new StringBuilder("sky 6 5;" + STILL + "dyes 5;old 0 0;");
        for (int c = 0; c < 29; c++) text.append("blue ").append(c).append(" 5;");
        return text.toString();
    }

    private static void toSwish() {
        String s = "'how often a GIRL must swish now at least (0 to 20; no KNOBS are taken, 'left' is all of them)'";
        told(s + " BLUE 0", 0, "girl 0 0;", x -> x.toSwish(0, 0));
        told(s + " just what it has", 0, "girl 0 0;blue 0 50;", x -> x.toSwish(0, 50));
        told(s + " one more", 1, "girl 0 0;blue 0 50;", x -> x.toSwish(0, 51));
        told(s + " just by 20", 20, "girl 0 0;", x -> x.toSwish(0, 60));
        told(s + " by 21", -1, "girl 0 0;", x -> x.toSwish(0, 61));
        told(s + " 99", 5, "girl 9 0;", x -> x.toSwish(0, 99));
        told(s + " 0 of DYES", -1, "dyes 0;girl 0 0;", x -> x.toSwish(0, 1));
        told(s + " no KNOB", 1, "knobs 0;girl 0 0;", x -> x.toSwish(0, 3));
        told(s + " 'left' 0", -1, "knobs 0;dyes left;girl 0 0;", x -> x.toSwish(0, 1));
        told(s + " 'left' 1", 1, "knobs 1;dyes left;girl 0 0;", x -> x.toSwish(0, 1));
        told(s + " 'left' stays", 20, "knobs 1;dyes left;girl 0 0;", x -> x.toSwish(0, 20));
        told(s + " with a PEG", 0, "peg 0;girl 9 0;", x -> x.toSwish(0, 0));
        told(s + " with a PEG", -1, "peg 0;girl 9 0;", x -> x.toSwish(0, 1));
        // 1, then 2 more, then 4 more
        told("'one behind the other'", 3, "dyes blue+1;girl 0 0;", x -> x.toSwish(0, 7));
        told("'one behind the other'", 4, "dyes blue+1;girl 0 0;", x -> x.toSwish(0, 8));
        BlueBag x = Due.told("girl 0 0;");
        for (int blue : new int[] {-1, 100, Integer.MAX_VALUE, Integer.MIN_VALUE}) {
            DUE.illegal("P25 'not 0 to 99' " + blue, () -> x.toSwish(0, blue));
            DUE.noSuch("P25 '(behind NoSuchElementException)' " + blue, () -> x.toSwish(1, blue));
        }
        DUE.noSuch("P25 'no such GIRL'", () -> x.toSwish(-1, 0));
    }

    // ---- who goes where

    private static void sent() {
        String s = "'each gets a GIRL, no two one GIRL, by fewest steps all together: how many'";
        told(s + " no CELLS", 0, "girl 0 0;", x -> x.sent(0, -1));
        told(s + " no CELLS, no GIRLS", 0, "", x -> x.sent(0, -1));
        told(s + " all are there", 0, "girl 0 0;girl 0 1;", x -> x.sent(3, -1));
        // girl 1 is nearest to both
        String line = "sky 6 1;girl 0 0;girl 0 4;";
        told(s + " 'no two one GIRL'", 4, line, x -> x.sent(1 << 3 | 1 << 5, -1));
        told(s + " 'no two one GIRL'", 0, line, x -> x.sent(1 << 3 | 1 << 5, 3));
        told(s + " 'no two one GIRL'", 1, line, x -> x.sent(1 << 3 | 1 << 5, 5));
        String three = "sky 6 1;girl 0 0;girl 0 0;girl 0 5;";
        told(s + " 'no two one GIRL', the third", 4, three, x -> x.sent(1 << 4 | 1 << 5, -1));
        told(s + " 'no two one GIRL', the third", 2, three, x -> x.sent(1 << 4 | 1 << 5, 5));
        told(s + " 'no two one GIRL', the third", 0, three, x -> x.sent(1 << 4 | 1 << 5, 4));
        told("'of like ones the first row (by CELLS)'", 0, "sky 2 1;girl 0 0;girl 0 0;", x -> x.sent(3, 0));
        told("'of like ones the first row (by CELLS)'", 1, "sky 2 1;girl 0 0;girl 0 0;", x -> x.sent(3, 1));
        told("'of like ones the first row (by CELLS)', of three", 0, "sky 2 1;girl 0 0;girl 0 0;girl 0 0;", x -> x.sent(2, 1));
        told("'PEGS don't matter'", 2, "sky 3 1;peg 0 1 2;girl 0 0;", x -> x.sent(4, -1));
        String six = "sky 6 5;girl 0 0;girl 0 1;girl 0 2;girl 0 3;girl 0 4;girl 0 5;";
        told("'(at most 6, as bits)' 6", 24, six, x -> x.sent(63 << 24, -1));
        for (int c = 24; c < 30; c++) {
            int cell = c;
            told("'who goes to a CELL' " + c, c - 24, six, x -> x.sent(63 << 24, cell));
        }
        BlueBag x = Due.told(six);
        DUE.illegal("P26 'more than 6'", () -> x.sent(127, -1));
        DUE.illegal("P26 'more than 6', all", () -> x.sent((1 << 30) - 1, 0));
        for (int cells : new int[] {1 << 30, -1, Integer.MIN_VALUE, 1 << 30 | 1}) {
            DUE.illegal("P26 'not bits of CELLS' " + cells, () -> x.sent(cells, -1));
            DUE.illegal("P26 'NoSuchElementException (behind that)' " + cells, () -> x.sent(cells, 99));
        }
        for (int cell : new int[] {-2, 1, 24, 30, 32, 64, Integer.MAX_VALUE, Integer.MIN_VALUE}) {
            DUE.noSuch("P26 'no such CELL of these' " + cell, () -> x.sent(1, cell));
        }
        DUE.noSuch("P26 'no such CELL of these', of none", () -> x.sent(0, 0));
        String fewer = "'-2: there are fewer GIRLS'";
        told(fewer + " none", -2, "", y -> y.sent(1, -1));
        told(fewer + " none, a CELL", -2, "", y -> y.sent(1, 0));
        told(fewer + " by one", -2, "girl 0 0;girl 0 0;", y -> y.sent(7, -1));
        told(fewer + " by one, a CELL", -2, "girl 0 0;girl 0 0;", y -> y.sent(7, 2));
        told(fewer + ", just as many", 3, "girl 0 0;girl 0 0;girl 0 0;", y -> y.sent(7, -1));
        BlueBag small = Due.told("sky 2 1;girl 0 0;");
        DUE.illegal("P26 'not bits of CELLS', of this SKY", () -> small.sent(4, -1));
        DUE.illegal("P26 'not bits of CELLS', of this SKY", () -> small.sent(5, 0));
        DUE.is("P26 the last CELL of this SKY", 1, () -> small.sent(2, -1));
    }

    private static void bandAndSteady() {
        String s = "'the row (Y) of which all CELLS have most BLUE together (of like ones the first)'";
        told(s + " one row", 0, "sky 6 1;blue 3 9;", x -> x.band(0));
        told(s + " of like ones", 0, "sky 2 2;blue 0 9;blue 2 4;blue 3 5;", x -> x.band(0));
        told(s + " by one", 1, "sky 2 2;blue 0 9;blue 2 5;blue 3 5;", x -> x.band(0));
        told(s + " the last, of CELL 29 alone", 4, "sky 6 5;blue 29 1;", x -> x.band(0));
        told(s + " of like ones behind the first", 1, "sky 1 3;blue 1 9;blue 2 9;", x -> x.band(0));
        told(s + " behind 40", 1, "sky 1 2;" + STILL + "knobs 99;dyes 1;blue 0 39;old 0 1;", x -> x.band(40));
        told(s + " behind 39", 0, "sky 1 2;" + STILL + "knobs 99;dyes 1;blue 0 39;old 0 1;", x -> x.band(39));
        String steady = "'behind how many DAYS (1 to 40) BLUE of all CELLS is as it was behind one DAY fewer, first; none'";
        told(steady + " 1", 1, "blue 0 9;" + STILL, x -> x.steady());
        told(steady + " 2", 2, "blue 0 1;", x -> x.steady());
        told(steady + " 40", 40, "sky 1 1;rinse 0;fades 1;blue 0 39;", x -> x.steady());
        told(steady + " not within 40", -1, "sky 1 1;rinse 0;fades 1;blue 0 40;", x -> x.steady());
        told(steady + " 'first'", 1, "sky 1 1;rinse 0;blue 0 9;fades (4<day)*1;", x -> x.steady());
        told(steady + " not one CELL of them", 10, "sky 2 1;rinse 0;fades 1;blue 0 3;blue 1 9;", x -> x.steady());
        // what CELL 0 has less each DAY CELL 1 has more
        told(steady + " each of them", -1, "sky 1 2;rinse 0;fades 1-row;knobs 99;dyes 1;blue 0 50;old 0 1;", x -> x.steady());
    }

    private static void stepsAndNearest() {
        String s = "'How many steps it is from a GIRL to a CELL'";
        told(s + " none", 0, "sky 1 1;girl 0 0;", x -> x.steps(0, 0));
        told(s + " the most", 9, "sky 6 5;girl 0 29;", x -> x.steps(0, 0));
        told(s + " the most", 9, "sky 6 5;girl 0 5;", x -> x.steps(0, 24));
        told(s + " from the end of a row to the next one", 6, "sky 6 5;girl 0 5;", x -> x.steps(0, 6));
        told(s + " from the sixth", 1, "girl 0 0;girl 0 0;girl 0 0;girl 0 0;girl 0 0;girl 0 7;", x -> x.steps(5, 8));
        BlueBag x = Due.told("girl 0 0;");
        DUE.noSuch("P29 'no such GIRL'", () -> x.steps(1, 0));
        DUE.noSuch("P29 'no such GIRL'", () -> x.steps(-1, 0));
        DUE.noSuch("P29 'no such CELL'", () -> x.steps(0, 9));
        DUE.noSuch("P29 'no such CELL'", () -> x.steps(0, -1));
        String near = "'the GIRL from whom it is fewest steps (of like ones the least); none'";
        told(near + " none", -1, "", y -> y.nearest(0));
        told(near + " one", 0, "sky 6 5;girl 0 29;", y -> y.nearest(0));
        told(near + " of like ones", 0, "sky 3 1;girl 0 0;girl 0 2;", y -> y.nearest(1));
        told(near + " the last", 5, "girl 0 0;girl 0 0;girl 0 0;girl 0 0;girl 0 0;girl 0 7;", y -> y.nearest(8));
        DUE.noSuch("P30 'no such CELL'", () -> x.nearest(9));
        DUE.noSuch("P30 'no such CELL'", () -> x.nearest(-1));
        DUE.noSuch("P30 'no such CELL', no GIRLS", () -> new BlueBag().nearest(9));
    }

    private static void missed() {
        String s = "'by how much BLUE of all CELLS would be less, were she RESTING on it, than were she not'";
        told(s + " nothing", 0, "sky 2 1;" + STILL + "dyes 0;girl 0 0;", x -> x.missed(0));
        told(s + " hers and beside", 45, "sky 2 1;" + STILL + "dyes 30;girl 0 0;", x -> x.missed(0));
        told(s + " no KNOB", 0, "knobs 0;girl 9 0;", x -> x.missed(0));
        told(s + " '(below 0, if it would be more)'", -18, "sky 1 1;" + STILL + "knobs 1;old 0 0;old 9 0;", x -> x.missed(0));
        told(s + " just as much", 0, "sky 1 1;" + STILL + "knobs 1;old 9 0;old 9 0;", x -> x.missed(0));
        BlueBag x = Due.told("sky 1 1;" + STILL + "old 9 0;");
        x.rest(0, true);
        DUE.is(s + " RESTING", 21, () -> x.missed(0));
        DUE.noSuch("P31 'no such GIRL'", () -> x.missed(1));
        DUE.noSuch("P31 'no such GIRL'", () -> x.missed(-1));
    }

    // ---- what is seen

    private static void see() {
        BlueBag x = Due.told("sky 2 1;");
        int[][] not = {{-1, 0}, {21, 0}, {0, -1}, {0, 100}, {Integer.MIN_VALUE, 0}, {0, Integer.MIN_VALUE},
            {Integer.MAX_VALUE, 99}, {20, Integer.MAX_VALUE}};
        for (int i = 0; i < not.length; i++) {
            int[] pair = not[i];
            String before = Due.state(x);
            DUE.is("P32 'NONE (STATUS 2): not 0 to 20, not 0 to 99'", -1, () -> x.see(1, pair[0], pair[1]));
            DUE.like("P32 (STATUS 2), and nothing else changes", before.replace(" 16:" + i + " ", " 16:" + (i + 1) + " "),
                Due.state(x));
        }
        DUE.is("P32 'how much is' 1", 1, () -> x.see(0, 0, 0));
        DUE.is("P32 'how much is' 2", 2, () -> x.see(1, 20, 99));
        for (int i = 3; i <= 8; i++) {
            int many = i;
            DUE.is("P32 'how much is', the same again", many, () -> x.see(0, 0, 0));
        }
        DUE.is("P32 'NONE (STATUS 2): there are 8'", -1, () -> x.see(0, 0, 0));
        DUE.is("P32 'NONE (STATUS 2): there are 8'", 9, () -> x.count(16));
        DUE.noSuch("P32 'no such CELL', (ahead)", () -> x.see(2, 0, 0));
        DUE.noSuch("P32 'no such CELL', (ahead)", () -> x.see(-1, 21, 100));
        DUE.is("P32 an exception is not counted", 9, () -> x.count(16));
        x.forget();
        DUE.is("P35 'All that is SEEN is forgotten'", 0, () -> x.count(12));
        x.forget();
        DUE.is("P35 nothing to forget", 0, () -> x.count(12));
        DUE.is("P32 behind that", 1, () -> x.see(0, 0, 0));
    }

    private static void skilled() {
        String s = "'GIRLS and SKILLS (0 to 9, another one than she has) by one of which all SEEN would be so'";
        told(s + " no GIRLS", 0, "", x -> x.skilled(0));
        told(s + " nothing SEEN, one", 9, "girl 9 0;", x -> x.skilled(0));
        told(s + " nothing SEEN, six", 54, "girl 0 0;girl 1 1;girl 2 2;girl 3 3;girl 4 4;girl 9 5;", x -> x.skilled(0));
        told(s + " 'the first', of SKILL 0", 1, "girl 0 0;", x -> x.skilled(1));
        told(s + " 'the first', of another", 0, "girl 1 0;", x -> x.skilled(1));
        told(s + " 'NONE: none'", -1, "", x -> x.skilled(1));
        told("'whether it is so without (1)', nothing SEEN", 1, "", x -> x.skilled(2));
        String day = "sky 1 1;" + STILL + "knobs 99;old 5 0;";
        for (int skill = 0; skill <= 9; skill++) {
            BlueBag x = Due.told(day);
            x.see(0, 1, 2 * skill + 3);
            int as = skill;
            DUE.is(s + " by " + as, as == 5 ? 0 : 1, () -> x.skilled(0));
            DUE.is(s + " by " + as, as == 5 ? -1 : as, () -> x.skilled(1));
            DUE.is("'whether it is so without (1)' by " + as, as == 5 ? 1 : 0, () -> x.skilled(2));
        }
        BlueBag far = Due.told("sky 2 1;" + STILL + "knobs 99;dyes skill;old 5 0;old 1 1;");
        far.see(1, 20, 80);
        DUE.is(s + " behind 20", 1, () -> far.skilled(0));
        DUE.is(s + " behind 20: 10 by the GIRL, and the SKILL", 14, () -> far.skilled(1));
        far.see(0, 0, 0);
        DUE.is(s + " behind 0", 1, () -> far.skilled(0));
        far.see(0, 3, 15);
        DUE.is(s + " 'all SEEN'", 14, () -> far.skilled(1));
        far.see(0, 3, 14);
        DUE.is(s + " no two at once", 0, () -> far.skilled(0));
        BlueBag last = Due.told(day);
        for (int i = 0; i < 7; i++) last.see(0, 0, 0);
        last.see(0, 1, 99);
        DUE.is(s + " the eighth, too", 0, () -> last.skilled(0));
        DUE.is(s + " the eighth, too", 0, () -> last.skilled(2));
        DUE.noSuch("P33 'another what'", () -> last.skilled(3));
        DUE.noSuch("P33 'another what'", () -> last.skilled(-1));
    }

    private static void look() {
        String s = "'the CELL of which BLUE behind 5 DAYS by these would be most unlike (of like ones the least)'";
        told(s + " 'none without any'", -1, "", x -> x.look(0));
        told(s + " '0: none'", 0, "", x -> x.look(1));
        told(s + " all alike", 0, "sky 2 1;knobs 0;girl 0 1;", x -> x.look(0));
        told(s + " all alike", 1, "sky 2 1;knobs 0;girl 0 1;", x -> x.look(1));
        told(s + " the last CELL", 29, "sky 6 5;" + STILL + "dyes skill;old 0 29;", x -> x.look(0));
        told(s + " nine", 9, "sky 6 5;" + STILL + "dyes skill;old 0 29;", x -> x.look(1));
        // her SKILL as it is counts by the other one's: 10 in all
        told(s + " of two GIRLS ten", 10, "sky 2 1;" + STILL + "dyes skill;old 3 0;old 3 1;", x -> x.look(1));
        told(s + " of like ones", 0, "sky 2 1;" + STILL + "dyes skill;old 3 0;old 3 1;", x -> x.look(0));
        // 5 for each, and only behind the 5th DAWN
        told(s + " behind 5, not 4", 9, "sky 1 1;" + STILL + "dyes (day=4)*skill;old 0 0;", x -> x.look(1));
        told(s + " behind 5, not 6", 1, "sky 1 1;" + STILL + "dyes (day=5)*skill;old 0 0;", x -> x.look(1));
        BlueBag x = Due.told("sky 2 1;" + STILL + "dyes skill;old 3 1;");
        x.see(1, 1, 3);
        DUE.is(s + " none but as it is", -1, () -> x.look(0));
        DUE.is(s + " none but as it is", 0, () -> x.look(1));
        DUE.noSuch("P34 'another what'", () -> x.look(2));
        DUE.noSuch("P34 'another what'", () -> x.look(-1));
    }

    // ---- games and seeds

    private static void game() {
        String pay = "'neither gains more by the other choice'";
        // 2 is what it costs
        told(pay + ", just as much", 4, "sky 2 1;" + STILL + "dyes 2;old 0 0;old 0 1;", x -> x.game(0, 1, 0));
        told(pay + ", just as much: the first", 0, "sky 2 1;" + STILL + "dyes 2;old 0 0;old 0 1;", x -> x.game(0, 1, 1));
        told(pay + ", one more", 11, "sky 2 1;" + STILL + "dyes 3;old 0 0;old 0 1;", x -> x.game(0, 1, 1));
        told(pay + ", one less", 0, "sky 2 1;" + STILL + "dyes 1;old 0 0;old 0 1;", x -> x.game(0, 1, 1));
        told("'loses 10 for each CELL that is OVERDONE', just as much", 4, "sky 2 1;" + STILL + "dyes 12;bound 11;old 0 0;old 0 1;",
            x -> x.game(0, 1, 0));
        told("'loses 10 for each CELL that is OVERDONE', one more", 11, "sky 2 1;" + STILL + "dyes 13;bound 12;old 0 0;old 0 1;",
            x -> x.game(0, 1, 1));
        told("'loses 10 for each CELL that is OVERDONE', two of them", 4, "sky 2 2;" + STILL
            + "dyes 22;bound 21;blue 2 11;blue 3 11;old 0 0;old 0 1;", x -> x.game(0, 1, 0));
        told("'how much BLUE her CELL has behind that DAY', 0 at a PEG", 0, "sky 2 1;" + STILL + "peg 0 1;old 9 0;old 9 1;",
            x -> x.game(0, 1, 1));
        told("'NONE: none'", -1, "sky 1 2;rinse 0;old 1 1;old 1 0;dyes 10;fades row*(beside=0)*99+(1-row)*(beside=15)*10;",
            x -> x.game(0, 1, 1));
        told("'NONE: none'", 0, "sky 1 2;rinse 0;old 1 1;old 1 0;dyes 10;fades row*(beside=0)*99+(1-row)*(beside=15)*10;",
            x -> x.game(0, 1, 0));
        told("no KNOB", 0, "knobs 0;girl 9 0;girl 9 1;", x -> x.game(0, 1, 1));
        BlueBag x = Due.told("girl 0 0;girl 0 0;");
        DUE.illegal("P36 'both are one'", () -> x.game(0, 0, 0));
        DUE.illegal("P36 'both are one'", () -> x.game(1, 1, 1));
        DUE.noSuch("P36 'IllegalArgumentException (behind that)'", () -> x.game(0, 0, 2));
        DUE.noSuch("P36 'IllegalArgumentException (behind that)'", () -> x.game(2, 2, 0));
        DUE.noSuch("P36 'also another what'", () -> x.game(0, 1, 2));
        DUE.noSuch("P36 'also another what'", () -> x.game(0, 1, -1));
        DUE.noSuch("P36 'no such GIRL'", () -> x.game(2, 0, 0));
        DUE.noSuch("P36 'no such GIRL'", () -> x.game(0, 2, 0));
        DUE.noSuch("P36 'no such GIRL'", () -> x.game(-1, 0, 0));
        DUE.noSuch("P36 'no such GIRL'", () -> x.game(0, -1, 0));
    }

    /** Which draws a seed gives is worked out apart from the class. */
    private static void skies() {
        String s = "'n DAYS (0 to 40) from now on'";
        told(s + " 0", 0, "sky 1 1;" + STILL + "bound 1;blue 0 9;", x -> x.skies(5, 0, 0));
        told(s + " 0", 9, "sky 1 1;" + STILL + "bound 1;blue 0 9;", x -> x.skies(5, 0, 1));
        told(s + " 0", 20, "sky 1 1;" + STILL + "bound 1;blue 0 9;", x -> x.skies(5, 0, 2));
        told(s + " 40", 40, "sky 1 1;" + STILL + "bound 1;blue 0 9;", x -> x.skies(5, 40, 0));
        // 0, then CELL 0
        told("'a DRAW of CELLS has 20 BLUE more'", 20, "sky 3 1;" + STILL, x -> x.skies(0, 1, 1));
        told("'a DRAW of CELLS has 20 BLUE more (99 at most'", 99, "sky 3 1;" + STILL + "blue 0 80;", x -> x.skies(0, 1, 1));
        told("'a DRAW of CELLS has 20 BLUE more (99 at most', just 99", 99, "sky 3 1;" + STILL + "blue 0 79;", x -> x.skies(0, 1, 1));
        told("'with a PEG 0'", 0, "sky 3 1;" + STILL + "peg 0;", x -> x.skies(0, 1, 1));
        told("'ahead of each' DAY: it is OVERDONE on it", 1, "sky 3 1;bound 19;", x -> x.skies(0, 1, 0));
        told("'MARTINS', just not", 0, "sky 3 1;bound 20;", x -> x.skies(0, 1, 0));
        told("one CELL, one DRAW", 20, "sky 1 1;" + STILL, x -> x.skies(0, 1, 1));
        // 1, then GIRL 1, then CELL 2; she gives 7 there, and the other one 3 at CELL 0, where their PEGS take none
        told("'a DRAW of GIRLS goes to a DRAW of CELLS'", 3, "sky 3 1;" + STILL + "peg 2;old 0 0;old 2 1;", x -> x.skies(6, 1, 1));
        told("'a DRAW of GIRLS goes to a DRAW of CELLS', from there", 10, "sky 3 1;" + STILL + "peg 1;old 0 0;old 2 1;",
            x -> x.skies(6, 1, 1));
        // 2
        told("'there are 5 KNOBS more'", 25, "sky 3 1;", x -> x.skies(3, 1, 2));
        told("'there are 5 KNOBS more (99 at most)'", 99, "sky 3 1;knobs 95;", x -> x.skies(3, 1, 2));
        told("'there are 5 KNOBS more (99 at most)', just 99", 99, "sky 3 1;knobs 94;", x -> x.skies(3, 1, 2));
        told("'there are 5 KNOBS more' ahead of the DAY", 4, "sky 3 1;knobs 0;girl 0 0;", x -> x.skies(3, 1, 2));
        // 1, then nothing drawn, then 0 and CELL 0: by seed 6
        told("'(Without GIRLS nothing is drawn behind 1.)'", 20, "sky 3 1;" + STILL, x -> x.skies(6, 2, 1));
        // 3 and 4
        told("3: nothing", 0, "sky 3 1;" + STILL, x -> x.skies(1, 1, 1));
        told("3: nothing", 20, "sky 3 1;" + STILL, x -> x.skies(1, 1, 2));
        told("4: nothing", 0, "sky 3 1;" + STILL, x -> x.skies(8, 1, 1));
        told("4: nothing", 20, "sky 3 1;" + STILL, x -> x.skies(8, 1, 2));
        // the least seed draws as 0 does, -1 as the greatest: bit 31 is above the bits that are drawn
        for (int what = 0; what <= 2; what++) {
            int w = what;
            String text = "sky 3 1;" + STILL + "bound 15;girl 1 1;old 3 2;";
            long want = Due.told(text).skies(0, 40, w);
            told("'(an int that wraps)' the least", want, text, x -> x.skies(Integer.MIN_VALUE, 40, w));
            long most = Due.told(text).skies(-1, 40, w);
            told("'(an int that wraps)' the greatest", most, text, x -> x.skies(Integer.MAX_VALUE, 40, w));
        }
        BlueBag x = Due.told("sky 1 1;" + STILL + "bound 1;blue 0 9;");
        x.days(3);
        DUE.is("'MARTINS that fell in these DAYS', not those of before", 2, () -> x.skies(5, 2, 0));
        DUE.illegal("P37 'n'", () -> x.skies(0, -1, 0));
        DUE.illegal("P37 'n'", () -> x.skies(0, 41, 2));
        DUE.illegal("P37 'n'", () -> x.skies(0, Integer.MAX_VALUE, 2));
        DUE.illegal("P37 'n'", () -> x.skies(0, Integer.MIN_VALUE, 2));
        DUE.noSuch("P37 'another what'", () -> x.skies(0, 0, 3));
        DUE.noSuch("P37 'another what'", () -> x.skies(0, 0, -1));
        DUE.noSuch("P37 'IllegalArgumentException (behind that)'", () -> x.skies(0, 41, 3));
        DUE.noSuch("P37 'IllegalArgumentException (behind that)'", () -> x.skies(0, -1, -1));
    }

    public static void main(String[] args) {
        then();
        knobsAndMartins();
        overdoneAndFirst();
        uneven();
        spent();
        streak();
        patch();
        way();
        toRest();
        toStand();
        toSwish();
        sent();
        bandAndSteady();
        stepsAndNearest();
        missed();
        see();
        skilled();
        look();
        game();
        skies();
        DUE.end();
    }
}
