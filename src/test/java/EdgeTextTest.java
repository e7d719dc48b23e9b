/**
 * The boundary cases of THE SKY, of texts and of their FAULTS, and of promises 1 to 7: each test names in quotes the
 * sentence that it holds the class to.
 */
public final class EdgeTextTest {
    private static final Due DUE = new Due("EdgeTextTest");

    private static void fault(String sentence, String want, String text) {
        DUE.like(sentence + " of: " + text, want, Due.faultOf(text));
    }

    private static void good(String sentence, String text) {
        fault(sentence, "0 -1", text);
    }

    private static void counts(String sentence, int what, int want, String text) {
        DUE.is(sentence + ": count(" + what + ") of: " + text, want, () -> Due.told(text).count(what));
    }

    /** What DYES give with KNOBS 20, at CELL 4 of 3 by 3 with BLUE 10 and 18 beside it, for a girl of SKILL 7. */
    private static void gives(String sentence, int want, String expr) {
        BlueBag x = Due.told("girl 7 4;blue 4 10;blue 1 3;blue 3 4;blue 5 5;blue 7 6;blue 0 50;dyes " + expr + ";");
        DUE.is(sentence + ": " + expr, want, () -> x.girl(0, 3));
    }

    // ---- THE SKY

    private static void wideAndHigh() {
        String s = "'WIDE by HIGH CELLS (1 to 6 by 1 to 5; 3 by 3 without)'";
        counts(s, 0, 9, "");
        counts(s, 1, 3, "");
        counts(s, 0, 9, "knobs 1;");
        for (int wide = 1; wide <= 6; wide++) {
            for (int high = 1; high <= 5; high++) {
                String text = "sky " + wide + " " + high + ";";
                counts(s, 0, wide * high, text);
                counts(s, 1, wide, text);
                BlueBag x = Due.told(text);
                int cells = wide * high;
                DUE.is(s + " the last CELL of: " + text, 0, () -> x.cell(cells - 1, 0));
                DUE.noSuch(s + " no CELL behind the last of: " + text, () -> x.cell(cells, 0));
                DUE.noSuch(s + " no CELL ahead of the first of: " + text, () -> x.cell(-1, 0));
            }
        }
        fault(s + " too narrow", "2 4", "sky 0 1;");
        fault(s + " too wide", "2 4", "sky 7 5;");
        fault(s + " too low", "2 6", "sky 1 0;");
        fault(s + " too high", "2 6", "sky 6 6;");
        fault(s + " both: the first", "2 4", "sky 7 6;");
    }

    private static void beside() {
        String s = "'beside each other are those that have a side in common'";
        for (int wide = 1; wide <= 6; wide++) {
            for (int high = 1; high <= 5; high++) {
                BlueBag x = Due.told("sky " + wide + " " + high + ";");
                for (int c = 0; c < wide * high; c++) {
                    int bits = 0;
                    if (c / wide > 0) bits |= 1 << (c - wide);
                    if (c / wide < high - 1) bits |= 1 << (c + wide);
                    if (c % wide > 0) bits |= 1 << (c - 1);
                    if (c % wide < wide - 1) bits |= 1 << (c + 1);
                    int cell = c;
                    DUE.is(s + " CELL " + c + " of " + wide + " by " + high, bits, () -> x.cell(cell, 1));
                }
            }
        }
    }

    private static void numbersOfLines() {
        String blue = "'BLUE of a CELL (0 to 99; 0 without)'";
        DUE.is(blue + " without", 0, () -> new BlueBag().cell(0, 0));
        DUE.is(blue + " 0", 0, () -> Due.told("blue 0 0;").cell(0, 0));
        DUE.is(blue + " 99", 99, () -> Due.told("blue 0 99;").cell(0, 0));
        fault(blue + " 100", "2 7", "blue 0 100;");
        fault(blue + " 9999", "2 7", "blue 0 9999;");
        String skill = "'a SKILL (0 to 9)'";
        DUE.is(skill + " 0", 0, () -> Due.told("girl 0 0;").girl(0, 0));
        DUE.is(skill + " 9", 9, () -> Due.told("old 9 0;").girl(0, 0));
        fault(skill + " 10, a girl's", "2 5", "girl 10 0;");
        fault(skill + " 10, an old one's", "2 4", "old 10 0;");
        String knobs = "'KNOBS (0 to 99; 20 without)'";
        counts(knobs, 4, 20, "");
        counts(knobs, 4, 0, "knobs 0;");
        counts(knobs, 4, 99, "knobs 99;");
        fault(knobs, "2 6", "knobs 100;");
        String rinse = "'RINSE (0 to 20; 2 without)'";
        counts(rinse, 5, 2, "");
        counts(rinse, 5, 0, "rinse 0;");
        counts(rinse, 5, 20, "rinse 20;");
        fault(rinse, "2 6", "rinse 21;");
        String bound = "'THE BOUND (1 to 99; 60 without)'";
        counts(bound, 6, 60, "");
        counts(bound, 6, 1, "bound 1;");
        counts(bound, 6, 99, "bound 99;");
        fault(bound, "2 6", "bound 0;");
        fault(bound, "2 6", "bound 100;");
    }

    private static void girls() {
        String s = "'GIRLS 0, 1 .. (at most 6)'";
        String six = "girl 0 0;old 1 1;girl 2 2;old 3 3;girl 4 4;old 5 5;";
        counts(s, 2, 0, "");
        counts(s, 2, 6, six);
        BlueBag x = Due.told(six);
        for (int g = 0; g < 6; g++) {
            int girl = g;
            DUE.is(s + " SKILL of " + g, g, () -> x.girl(girl, 0));
            DUE.is(s + " the CELL of " + g, g, () -> x.girl(girl, 1));
            DUE.is(s + " 'old' " + g, g % 2, () -> x.girl(girl, 2));
            DUE.is("P6 GIRLS at CELL " + g, 1 << g, () -> x.cell(girl, 2));
        }
        DUE.noSuch(s + " no seventh", () -> x.girl(6, 0));
        fault("'the first TOKEN of the 7th GIRL'", "2 51", six + "girl 1 1;");
        fault("'the first TOKEN of the 7th GIRL'", "2 51", six + "old");
        fault("'the first TOKEN of the 7th GIRL', not of another line", "0 -1", six + "peg 0;");
    }

    // ---- the text

    private static void mostBytes() {
        String s = "'A TEXT of at most 700 bytes'";
        BlueBag x = new BlueBag();
        Due.feed(x, "knobs 5;" + " ".repeat(684) + "rinse 9;");
        DUE.is("P2 the tape is full", 700, () -> x.count(13));
        DUE.is("P2 '(NONE, and none come, if it would have more than 700)'", -1, () -> x.feed(0, 0, 0, 0, 0));
        DUE.is("P2 none came", 700, () -> x.count(13));
        DUE.is(s, 0, () -> x.coast(700));
        DUE.is(s + ": its first line", 5, () -> x.count(4));
        DUE.is(s + ": its last line", 9, () -> x.count(5));
        BlueBag y = new BlueBag();
        Due.feed(y, " ".repeat(700));
        DUE.is(s + ": 699 of 700", 0, () -> y.coast(699));
        DUE.is("P3 '(it is empty then)'", 0, () -> y.count(13));
        DUE.is("P2 there is room again", 20, () -> y.feed(0, 0, 0, 0, 0));
        fault(s + ": too soon at its end", "1 700", "knobs" + " ".repeat(695));
        fault(s + ": a FAULT in its last byte", "1 699", " ".repeat(699) + ";");
    }

    private static void highestFirst() {
        String s = "P2 'of each number the highest first'";
        BlueBag x = new BlueBag();
        // "dyes 0-1" and so on: each of the five numbers' bytes in their order, the lowest one a blank or a sign
        DUE.is(s, 20, () -> x.feed(0x6b6e6f62, 0x73203132, 0x3b72696e, 0x73652031, 0x343b2020));
        DUE.is(s, 0, () -> x.coast(18));
        DUE.is(s, 12, () -> x.count(4));
        DUE.is(s, 14, () -> x.count(5));
        DUE.is(s + ", of numbers below 0", 20, () -> x.feed(0x80000000, -1, Integer.MIN_VALUE, -2, 0xff));
        DUE.is(s + ": byte 128 is no TOKEN", 1, () -> x.coast(1));
        DUE.is(s + ": its place", 0, x::fault);
    }

    private static void tokens() {
        String words = "'words (a .. z, the longest row)'";
        good(words + " up to a digit", "knobs5;rinse0;");
        fault(words + " no longer one", "1 0", "knobsx 5;");
        fault(words + " no shorter one", "1 0", "knob 5;");
        fault(words + " in two", "1 0", "kno bs 5;");
        fault(words + " not A .. Z", "1 0", "KNOBS 5;");
        fault(words + " not A .. Z, within", "1 0", "knoBs 5;");
        fault(words + " not A .. Z, behind one", "1 3", "oldB 1 1;");
        fault(words + " not behind z", "1 5", "dyes {;");
        fault(words + " not ahead of a", "1 5", "dyes `;");
        String numbers = "'NUMBERS (1 to 4 digits)'";
        good(numbers + " 4 digits", "knobs 0099;dyes 9999;fades 0000;");
        fault(numbers + " 5 digits", "2 6", "knobs 00099;");
        fault(numbers + " 5 digits in an EXPR", "2 5", "dyes 00001;");
        fault(numbers + " 5 digits in an EXPR, further on", "2 8", "dyes (1+10000);");
        fault(numbers + " as many as an int has not", "2 6", "knobs 4294967301;");
        fault(numbers + " not ahead of 0", "1 5", "dyes /;");
        fault(numbers + " not behind 9", "1 5", "dyes :;");
        String blanks = "'blanks (32, 10) between them count for nothing'";
        good(blanks, "\n\nknobs\n 5 \n ; \n");
        good(blanks + ", none", "sky 1 1;knobs5;dyes(blue)+1;");
        fault(blanks + ", but 9", "1 5", "knobs\t5;");
        fault(blanks + ", but 13", "1 8", "knobs 5;\r\n");
        fault(blanks + ", but 11", "1 0", "\u000bknobs 5;");
        fault(blanks + ", but 0", "1 0", "\u0000");
        fault(blanks + ", but 160", "1 0", "\u00a0");
        fault(blanks + ", but 255", "1 8", "knobs 5;\u00ff");
        fault(blanks + ": one within a NUMBER cuts it", "1 8", "knobs 1 2;");
        for (char c = 33; c < 127; c++) {
            if (c == ';' || c == '(' || c == ')' || Character.isLetterOrDigit(c)) continue;
            boolean joins = "+-*/<=".indexOf(c) >= 0;
            fault("'signs ; ( ) + - * / < ='", joins ? "0 -1" : "1 6", "dyes 1" + c + "1;");
        }
    }

    /** A byte that no TOKEN has, wherever another TOKEN might stand. */
    private static void noTokens() {
        String s = "'1 a TOKEN that .. is none'";
        for (char b = 0; b < 256; b++) {
            boolean isOne = b >= 'a' && b <= 'z' || b >= '0' && b <= '9' || ";()+-*/<=".indexOf(b) >= 0;
            if (isOne || b == ' ' || b == '\n') continue;
            String where = s + " byte " + (int) b;
            fault(where, "1 0", b + "knobs 5;");
            fault(where, "1 6", "knobs " + b + ";");
            fault(where, "1 7", "knobs 5" + b + ";");
            fault(where, "1 5", "dyes " + b + ";");
            fault(where, "1 6", "dyes 1" + b + "1;");
            fault(where, "1 6", "peg 0 " + b + ";");
            fault(where, "1 8", "knobs 5;" + b);
        }
    }

    /** A word that differs in one letter, wherever that is, or is one longer or shorter, is another word. */
    private static void otherWords() {
        String s = "'a TOKEN that can't stand there'";
        String[] lines = {"sky 3 3;", "blue 0 1;", "girl 1 1;", "old 1 1;", "peg 0;", "knobs 1;", "rinse 1;", "bound 1;",
            "dyes 1;", "fades 1;"};
        for (String line : lines) {
            int end = line.indexOf(' ');
            good(s + " the word itself", line);
            for (int i = 0; i < end; i++) fault(s, "1 0", line.substring(0, i) + "x" + line.substring(i + 1));
            fault(s + " longer", "1 0", line.substring(0, end) + "s" + line.substring(end));
            fault(s + " shorter", "1 0", line.substring(0, end - 1) + line.substring(end));
        }
        for (String word : new String[] {"blue", "beside", "row", "day", "skill", "left"}) {
            good("'VALUES of a CELL'", "dyes " + word + ";");
            for (int i = 0; i < word.length(); i++) {
                fault("'any word .. that is no VALUE'", "3 5", "dyes " + word.substring(0, i) + "x" + word.substring(i + 1) + ";");
            }
            fault("'any word .. that is no VALUE', longer", "3 5", "dyes " + word + "s;");
            fault("'any word .. that is no VALUE', shorter", "3 5", "dyes " + word.substring(1) + ";");
        }
        for (String word : new String[] {"and", "or"}) {
            good("'AND ('or' AND)*', 'NOT ('and' NOT)*'", "dyes 1 " + word + " 1;");
            for (int i = 0; i < word.length(); i++) {
                fault(s, "1 7", "dyes 1 " + word.substring(0, i) + "x" + word.substring(i + 1) + " 1;");
            }
        }
        fault("'any word .. that is no VALUE'", "3 5", "dyes xot 1;");
        fault("'any word .. that is no VALUE'", "3 5", "dyes nox 1;");
    }

    /** What stands on the tape behind the first n bytes does not count, though it would go on with a word or a NUMBER. */
    private static void firstBytes() {
        String s = "P3 'The tape's first n bytes'";
        String text = "knobs 99;dyes blue;";
        int[] faults = {0, 1, 1, 1, 1, 1, 1, 1, 1, 0, 1, 1, 1, 1, 1, 3, 3, 3, 1, 0};
        int[] places = {-1, 0, 0, 0, 0, 5, 6, 7, 8, -1, 9, 9, 9, 13, 14, 14, 14, 14, 18, -1};
        for (int n = 0; n < faults.length; n++) {
            int first = n;
            BlueBag x = new BlueBag();
            Due.feed(x, text);
            DUE.is(s + ", " + n + " of: " + text, faults[n], () -> x.coast(first));
            DUE.is(s + ", " + n + " of: " + text + " its place", places[n], x::fault);
        }
        BlueBag y = new BlueBag();
        Due.feed(y, "dyes 1234567;");
        DUE.is(s + ", a NUMBER cut to 4 digits", 1, () -> y.coast(9));
        DUE.is(s + ", a NUMBER cut to 4 digits, its place", 9, y::fault);
    }

    private static void lines() {
        String s = "'COAST: LINE*'";
        good(s + " none", "");
        good(s + " but blanks", " ");
        fault(s + " no empty LINE", "1 0", ";");
        fault(s + " no empty LINE", "1 8", "knobs 5;;");
        String soon = "'(the text's length where it ends too soon)'";
        fault(soon, "1 7", "knobs 5");
        fault(soon + " blanks, too", "1 9", "knobs 5  ");
        fault(soon, "1 5", "knobs");
        fault(soon, "1 6", "blue 0");
        fault(soon, "1 8", "blue 0 0");
        fault(soon, "1 4", "girl");
        fault(soon, "1 6", "girl 0");
        fault(soon, "1 8", "girl 0 0");
        fault(soon, "1 3", "peg");
        fault(soon, "1 5", "peg 0");
        fault(soon, "1 4", "dyes");
        fault(soon, "1 6", "dyes (");
        fault(soon, "1 8", "dyes (1)");
        fault(soon, "1 8", "dyes 1 +");
        fault(soon, "1 8", "dyes 1 <");
        fault(soon, "1 8", "dyes not");
        fault(soon, "1 10", "dyes 1 and");
        fault(soon, "1 9", "dyes 1 or");
        fault(soon + " of a first word", "1 0", "knob");
        fault(soon + ": what is too much is too much ahead of that", "2 6", "knobs 100");
        String peg = "'peg' CELL CELL*'";
        fault(peg + " none", "1 4", "peg ;");
        counts(peg + " one", 8, 1, "peg 0;");
        counts(peg + " all", 8, 511, "peg 8 7 6 5 4 3 2 1 0;");
        counts(peg + " all of the largest", 8, (1 << 30) - 1, "sky 6 5;peg 0 1 2 3 4 5 6 7 8 9 10 11 12 13 14;"
            + "peg 15 16 17 18 19 20 21 22 23 24 25 26 27 28 29;");
        fault(peg + " a word", "1 6", "peg 0 blue 1 1;");
    }

    // ---- EXPR

    private static void exprWorth() {
        gives("'From the left' -", 5, "9-3-1");
        gives("'From the left' - +", 7, "9-3+1");
        gives("'From the left' /", 2, "24/4/3");
        gives("'From the left' * /", 9, "7*4/3");
        gives("'From the left' / *", 7, "30/4*1");
        String wrap = "'ints that wrap'";
        // 8192 * 8192 * 32 is 2 to the 31st
        gives(wrap + " up to the least", 1, "8192*8192*32<0");
        gives(wrap + " less than the least", 1, "0<8192*8192*32-1");
        gives(wrap + " more than the greatest", 1, "(8192*8192*32-1)+1<0");
        gives(wrap + " to 0", 1, "8192*8192*64=0");
        gives(wrap + " the least by -1", 1, "8192*8192*32/(0-1)=8192*8192*32");
        gives(wrap + " 0 less the least", 1, "0-8192*8192*32<0");
        String cut = "'/ cut down to 0'";
        gives(cut, 3, "7/2");
        gives(cut + " below 0", 1, "(0-7)/2=0-3");
        gives(cut + " by one below 0", 1, "7/(0-2)=0-3");
        gives(cut + " both below 0", 3, "(0-7)/(0-2)");
        gives(cut + " to 0 itself", 1, "(0-1)/2=0");
        String zero = "'by 0 gives 0'";
        gives(zero, 0, "9/0");
        gives(zero + " 0 by 0", 4, "0/0+4");
        gives(zero + " by a VALUE", 4, "blue/day+4");
        gives(zero + " the least by 0", 1, "8192*8192*32/0=0");
        String tests = "'tests, not, and, or are 1 or 0 (what isn't 0 holds)'";
        gives(tests, 1, "9 or 9");
        gives(tests, 1, "9 and 9");
        gives(tests, 1, "(0-1) and (0-9)");
        gives(tests, 1, "0 or 0-1");
        gives(tests, 0, "not (0-1)");
        gives(tests, 1, "not 0");
        gives(tests, 1, "not not 9");
        gives(tests, 1, "9=9");
        gives(tests, 0, "9<9");
        gives(tests, 1, "0-1<0");
        gives(tests, 6, "(9=9)+(8<9)*5");
        gives("'not' holds the test behind it", 0, "not 2=2");
        gives("'not' ends at 'and'", 0, "not 0 and 0");
        gives("'not' ends at 'or'", 1, "not 9 or 9");
        gives("'and' ahead of 'or'", 1, "1 or 1 and 0");
        gives("'and' ahead of 'or'", 1, "0 and 0 or 1");
    }

    private static void values() {
        gives("'blue'", 10, "blue");
        gives("'beside' (BLUE of all CELLS beside it, together)", 18, "beside");
        gives("'row' (Y)", 1, "row");
        gives("'day'", 0, "day");
        gives("'skill' (of the GIRL)", 7, "skill");
        gives("'left' (hers not counted)", 19, "left");
        DUE.is("'row' of the last one", 4, () -> Due.told("sky 6 5;girl 0 29;dyes row;").girl(0, 3));
        DUE.is("'row' of the first one", 0, () -> Due.told("sky 6 5;girl 0 5;dyes row;").girl(0, 3));
        DUE.is("'beside' of a corner", 9, () -> Due.told("sky 2 2;girl 0 0;blue 1 4;blue 2 5;blue 3 7;dyes beside;").girl(0, 3));
        DUE.is("'beside' of one alone", 0, () -> Due.told("sky 1 1;girl 0 0;blue 0 4;dyes beside;").girl(0, 3));
        DUE.is("'beside' with a PEG", 5, () -> Due.told("sky 3 1;girl 0 1;blue 0 4;blue 2 5;peg 0;dyes beside;").girl(0, 3));
        for (String word : new String[] {"skill", "left"}) {
            good("'of DYES also'", "dyes " + word + ";");
            fault("'any word that is no VALUE of this EXPR'", "3 6", "fades " + word + ";");
        }
        for (String word : new String[] {"sky", "girl", "old", "peg", "and", "or", "dyes", "fades", "days", "rows", "x"}) {
            fault("'any word where a PART must stand that is no VALUE of this EXPR'", "3 5", "dyes " + word + ";");
            fault("'any word where a PART must stand that is no VALUE of this EXPR'", "3 7", "dyes 1+" + word + ";");
            fault("'any word where a PART must stand that is no VALUE of this EXPR'", "3 10", "fades not " + word + ";");
        }
        fault("'any word where a PART must stand', not behind one", "1 7", "dyes 1 blue;");
        fault("'any word where a PART must stand', not behind one", "1 7", "dyes 1 x;");
    }

    // ---- FAULTS

    private static void within() {
        String s = "'of an EXPR within 6 others (a NUMBER, any word, a parenthesis)'";
        good(s + " within 5", "dyes (((((1)))));");
        good(s + " within 5, again and again", "dyes (((((1))))) + (((((2)))));");
        good(s + " the seventh behind another", "dyes (1)+(1)+(1)+(1)+(1)+(1)+(1);");
        for (String first : new String[] {"1", "99999", "blue", "x", "not", "and", "("}) {
            fault(s, "2 11", "dyes ((((((" + first + "))))));");
            fault(s + " of FADES", "2 12", "fades ((((((" + first);
        }
        for (String first : new String[] {")", "+", "-", "*", "/", "<", "=", ";", "", "!"}) {
            fault(s + ", but what can't stand there", "1 11", "dyes ((((((" + first);
        }
        fault(s + " behind a 'not'", "2 15", "dyes not ((((((1");
        fault(s + " behind an ended one", "2 17", "dyes (((((1)+1+((1))))));");
    }

    private static void notsSideBySide() {
        String s = "'the seventh 'not' side by side'";
        String six = "not not not not not not ";
        good(s + ", six", "dyes " + six + "1;");
        good(s + ", six by six", "dyes " + six + "1 and " + six + "1 or " + six + "1;");
        good(s + ", six within six", "dyes " + six + "(" + six + "1);");
        fault(s, "2 29", "dyes " + six + "not 1;");
        fault(s + ", whatever comes", "2 29", "dyes " + six + "not");
        fault(s + " behind 'and'", "2 35", "dyes 1 and " + six + "not 1;");
        gives(s + ", six change nothing", 1, six + "7");
        gives(s + ", five do", 0, "not not not not not 7");
    }

    private static void cells() {
        String s = "'a CELL that isn't in THE SKY as told ahead (3 by 3, if it isn't)'";
        String[] heads = {"blue ", "peg ", "peg 0 ", "girl 1 ", "old 1 "};
        for (String head : heads) {
            String tail = head.startsWith("blue") ? " 1;" : ";";
            good(s, head + "8" + tail);
            fault(s, "3 " + head.length(), head + "9" + tail);
            fault(s, "3 " + head.length(), head + "30" + tail);
            fault(s, "3 " + head.length(), head + "9999" + tail);
            fault("'a NUMBER of 5 digits or more'", "2 " + head.length(), head + "10000" + tail);
            good(s, "sky 6 5;" + head + "29" + tail);
            fault(s, "3 " + (8 + head.length()), "sky 6 5;" + head + "30" + tail);
            fault(s, "3 " + (8 + head.length()), "sky 2 1;" + head + "2" + tail);
            fault("'sky' behind any CELL'", "4 " + (head.length() + 1 + tail.length()), head + "1" + tail + "sky 6 5;");
            fault("'sky' behind any CELL', a second one, too", "4 " + (8 + head.length() + 1 + tail.length()),
                "sky 6 5;" + head + "1" + tail + "sky 6 5;");
        }
        good("'sky' behind any CELL', not behind what has none", "knobs 1;rinse 1;bound 1;dyes blue;fades blue;sky 1 1;");
    }

    private static void already() {
        String blue = "'the CELL of a 'blue' of which there is one already'";
        good(blue, "blue 0 1;blue 1 1;");
        fault(blue, "4 14", "blue 0 1;blue 0 1;");
        fault(blue + ", of 0", "4 14", "blue 0 0;blue 0 0;");
        fault(blue + ", further on", "4 23", "blue 0 1;blue 8 1;blue 0 1;");
        fault(blue + ", ahead of its BLUE", "4 14", "blue 0 1;blue 0 100;");
        good(blue + ", not of a 'peg'", "peg 0;blue 0 1;");
        good(blue + ", not of a 'girl'", "girl 0 0;girl 0 0;blue 0 1;");
        String peg = "'the CELL of a 'peg' that has one already'";
        fault(peg + ", in one line", "4 8", "peg 0 1 0;");
        fault(peg + ", in another", "4 10", "peg 0;peg 0;");
        good(peg + ", not of a 'blue'", "blue 0 1;peg 0;");
        String second = "'a second 'sky', 'knobs', 'rinse', 'bound', 'dyes', 'fades''";
        for (String line : new String[] {"sky 3 3;", "knobs 1;", "rinse 1;", "bound 1;", "dyes 1;", "fades 1;"}) {
            fault(second, "5 " + line.length(), line + line);
            String between = line + "\n";
            fault(second + ", at its first word", "5 " + between.length(), between + line.substring(0, line.indexOf(' ')));
        }
        fault(second + ", behind another line", "5 17", "knobs 1;rinse 1; knobs 1;");
        fault(second + ", behind two others", "5 23", "sky 3 3;knobs 1;dyes 1;sky 3 3;");
        good(second + ", once each", "sky 3 3;knobs 1;rinse 1;bound 1;dyes 1;fades 1;");
    }

    private static void firstAndLeast() {
        fault("'the first along the text'", "3 5", "blue 9 100;sky 2 2;knobs 1;knobs 1;");
        fault("'the first along the text'", "2 7", "blue 8 100;sky 2 2;");
        fault("'of one TOKEN the least', 2 and 3: a CELL", "2 5", "blue 99999 1;");
        fault("'of one TOKEN the least', 2 and 3: a word", "2 11", "dyes ((((((x");
        fault("'of one TOKEN the least', 4 and 5: 'sky'", "4 15", "sky 3 3;peg 1; sky 3 3;");
        fault("'of one TOKEN the least', 1 and 2: a NUMBER", "1 8", "knobs 1 99999;");
        fault("'of one TOKEN the least', 1 and 2: a NUMBER as a line", "1 0", "99999;");
        fault("'of one TOKEN the least', 1 and 3: a word behind a PART", "1 8", "fades 1 skill;");
    }

    // ---- promises 3 to 7

    private static void coast() {
        BlueBag x = Due.told("sky 2 1;blue 0 9;girl 1 1;peg 1;");
        x.days(1);
        x.see(0, 1, 9);
        x.image();
        Due.feed(x, "knobs 100;");
        String before = Due.state(x);
        DUE.illegal("P3 'the tape has not so many'", () -> x.coast(21));
        DUE.illegal("P3 'the tape has not so many'", () -> x.coast(Integer.MAX_VALUE));
        DUE.illegal("P3 'n below 0'", () -> x.coast(-1));
        DUE.like("P3 '(nothing changes)'", before, Due.state(x));
        DUE.is("P4 '(nothing changes)'", -1, x::fault);
        DUE.is("P3 'the FAULT'", 2, () -> x.coast(10));
        DUE.is("P4 'The place of the latest coast()'s FAULT'", 6, x::fault);
        DUE.is("P3 '(it is empty then)'", 0, () -> x.count(13));
        DUE.like("P3 '(all else stays, but STATUS)'", before.replace(" 13:20", " 13:0").replace(" 14:0", " 14:1"), Due.state(x));
        DUE.is("P3 'all else stays': the ACT", 0, x::undo);
        DUE.is("P3 'all else stays': the image", 1, () -> x.restore() ? 1 : 0);
        Due.feed(x, "x");
        x.coast(1);
        DUE.is("P4 'the latest'", 0, x::fault);
        DUE.is("P3 all of an empty tape", 0, () -> x.coast(0));
        DUE.is("P4 'NONE without'", -1, x::fault);
        DUE.like("P3 'all anew (STATUS stays)'", Due.state(new BlueBag()).replace(" 14:0", " 14:1"), Due.state(x));
        DUE.is("P3 'ACTS are gone'", -1, x::undo);
        DUE.is("P3 'the image is gone'", 0, () -> x.restore() ? 1 : 0);
    }

    /** Each line of a text is as it is without it, when the next text leaves it out. */
    private static void allAnew() {
        String s = "P3 'all anew'";
        String[] lines = {"sky 2 2;", "blue 0 9;", "girl 3 0;", "old 3 0;", "peg 0;", "knobs 3;", "rinse 0;", "bound 9;"};
        String fresh = Due.state(new BlueBag());
        for (String line : lines) {
            BlueBag x = Due.told(line);
            DUE.holds(s + ": is told by " + line, false, fresh.equals(Due.state(x)));
            x.coast(0);
            DUE.like(s + ": is gone, " + line, fresh, Due.state(x));
        }
        BlueBag dyes = Due.told("girl 3 0;dyes 1;");
        Due.feed(dyes, "girl 3 0;");
        DUE.is(s, 0, () -> dyes.coast(9));
        DUE.is(s + ": is gone, dyes", 9, () -> dyes.girl(0, 3));
        BlueBag fades = Due.told("blue 0 9;fades 0;");
        Due.feed(fades, "blue 0 9;");
        DUE.is(s, 0, () -> fades.coast(9));
        DUE.is(s + ": is gone, fades", 6, () -> fades.then(0, 1));
        BlueBag old = Due.told("old 3 0;");
        Due.feed(old, "girl 3 0;");
        DUE.is(s, 0, () -> old.coast(9));
        DUE.is(s + ": is gone, old", 0, () -> old.girl(0, 2));
        BlueBag acts = Due.told("girl 3 0;");
        acts.days(3);
        acts.rest(0, true);
        acts.see(0, 0, 0);
        Due.feed(acts, "girl 3 0;");
        DUE.is(s, 0, () -> acts.coast(9));
        DUE.like(s + ": DAY, RESTING, BLUE, KNOBS, ACTS, SEEN", Due.state(Due.told("girl 3 0;")), Due.state(acts));
    }

    private static void newObject() {
        String s = "P1 'THE SKY as it is without a text, no GIRLS'";
        BlueBag x = new BlueBag();
        BlueBag y = Due.told("");
        DUE.like(s, Due.state(y), Due.state(x));
        DUE.is(s, 0, () -> x.count(2));
        DUE.noSuch(s, () -> x.girl(0, 0));
        DUE.is("P4 'NONE without'", -1, x::fault);
        DUE.noSuch("P5 'another what'", () -> x.count(-1));
        DUE.noSuch("P5 'another what'", () -> x.count(17));
        DUE.noSuch("P6 'no such CELL'", () -> x.cell(9, 0));
        DUE.noSuch("P6 'no such what'", () -> x.cell(0, 4));
        DUE.noSuch("P6 'no such what'", () -> x.cell(0, -1));
        BlueBag z = Due.told("girl 9 0;");
        DUE.noSuch("P7 'no such what'", () -> z.girl(0, 4));
        DUE.noSuch("P7 'no such what'", () -> z.girl(0, -1));
        DUE.noSuch("P7 'no such GIRL'", () -> z.girl(1, 0));
    }

    private static void wouldDye() {
        String kept = "P7 'what DYES gives, kept as told'";
        DUE.is(kept + " 30", 30, () -> Due.told("girl 0 0;dyes 30;").girl(0, 3));
        DUE.is(kept + " more", 30, () -> Due.told("girl 0 0;dyes 31;").girl(0, 3));
        DUE.is(kept + " 0", 0, () -> Due.told("girl 9 0;dyes 0;").girl(0, 3));
        DUE.is(kept + " less", 0, () -> Due.told("girl 9 0;dyes 0-1;").girl(0, 3));
        DUE.is(kept + " though BLUE would be 99 at most", 30, () -> Due.told("girl 0 0;blue 0 99;dyes 30;").girl(0, 3));
        DUE.is("'(without it SKILL twice, and 3)' 0", 3, () -> Due.told("girl 0 0;").girl(0, 3));
        DUE.is("'(without it SKILL twice, and 3)' 9", 21, () -> Due.told("girl 9 0;").girl(0, 3));
        String left = "P7 ''left' is KNOBS less 1, not below 0'";
        DUE.is(left + " 2", 1, () -> Due.told("girl 0 0;knobs 2;dyes left;").girl(0, 3));
        DUE.is(left + " 1", 0, () -> Due.told("girl 0 0;knobs 1;dyes left;").girl(0, 3));
        DUE.is(left + " 0", 7, () -> Due.told("girl 0 0;knobs 0;dyes left+7;").girl(0, 3));
        BlueBag x = Due.told("girl 0 0;dyes 7;");
        x.rest(0, true);
        DUE.is("P7 RESTING or not", 7, () -> x.girl(0, 3));
    }

    public static void main(String[] args) {
        wideAndHigh();
        beside();
        numbersOfLines();
        girls();
        mostBytes();
        highestFirst();
        tokens();
        noTokens();
        otherWords();
        firstBytes();
        lines();
        exprWorth();
        values();
        within();
        notsSideBySide();
        cells();
        already();
        firstAndLeast();
        coast();
        allAnew();
        newObject();
        wouldDye();
        DUE.end();
    }
}
