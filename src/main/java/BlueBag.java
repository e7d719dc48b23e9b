import java.util.NoSuchElementException;

/** A sky of cells that girls dye from a blue bag, day by day. The README tells how it is used. */
public final class BlueBag {
    public static final int NONE = -1;

    private static final int MOST_TEXT = 700;
    private static final int FEED_BYTES = 20;
    private static final int MOST_WIDE = 6;
    private static final int MOST_HIGH = 5;
    private static final int MOST_CELLS = 30;
    private static final int MOST_GIRLS = 6;
    private static final int MOST_SKILL = 9;
    private static final int MOST_BLUE = 99;
    private static final int MOST_KNOBS = 99;
    private static final int MOST_RINSE = 20;
    private static final int MOST_BOUND = 99;
    private static final int MOST_DYE = 30;
    private static final int START_WIDE = 3;
    private static final int START_HIGH = 3;
    private static final int START_KNOBS = 20;
    private static final int START_RINSE = 2;
    private static final int START_BOUND = 60;
    private static final int MOST_MARTINS = 9999;
    private static final int MOST_DAY = 999;
    private static final int MOST_DAYS_BY = 20;
    private static final int MOST_KNOBS_MORE = 50;
    private static final int MOST_AHEAD = 40;
    private static final int MOST_SWISHES = 20;
    private static final int MOST_SENT = 6;
    private static final int MOST_ACTS = 40;
    private static final int MOST_SEEN = 8;
    private static final int MOST_SEEN_DAYS = 20;
    private static final int LOOK_DAYS = 5;
    private static final int TOO_FEW_GIRLS = -2;
    private static final int DRAWS_AHEAD = 5;
    private static final int DRAWN_BLUE = 20;
    private static final int DRAWN_KNOBS = 5;
    /** More than any unevenness or any number of steps. */
    private static final int ABOVE_ALL = 1000000;

    private static final int REFUSED_TEXTS = 0;
    private static final int REFUSED_ACTS = 1;
    private static final int REFUSED_SEEN = 2;
    private static final int STATUS_ROWS = 3;

    private final Tape tape = new Tape();
    private final Coast coast = new Coast();
    private final CoastReader reader = new CoastReader(tape);
    private final Memory present = new Memory(coast);
    private final Memory pictured = new Memory(coast);
    private final Sky trial = new Sky(coast);
    private final Sending sending = new Sending(present.sky);
    private final Dice dice = new Dice();
    private final long[] lowBlues = new long[MOST_CELLS];
    private final long[] highBlues = new long[MOST_CELLS];
    private final int[] gains = new int[8];
    private boolean isPictured;
    private int faultPlace = NONE;

    public BlueBag() {
    }

    // ---- the tape and its text

    public int feed(int a, int b, int c, int d, int e) {
        if (!tape.hasRoomFor(FEED_BYTES)) return NONE;
        tape.put(a);
        tape.put(b);
        tape.put(c);
        tape.put(d);
        tape.put(e);
        return tape.length;
    }

    public int coast(int n) throws IllegalArgumentException {
        if (n < 0 || n > tape.length) throw new IllegalArgumentException();
        int fault = reader.read(n);
        tape.clear();
        faultPlace = reader.faultPlace();
        if (fault != 0) {
            present.refuse(REFUSED_TEXTS);
            return fault;
        }
        coast.copyFrom(reader.draft);
        present.begin(reader.draftSky);
        isPictured = false;
        return 0;
    }

    public int fault() {
        return faultPlace;
    }

    // ---- what is so now

    public int count(int what) throws NoSuchElementException {
        switch (what) {
            case 0: return coast.cells();
            case 1: return coast.wide;
            case 2: return coast.girls;
            case 3: return present.sky.day;
            case 4: return present.sky.knobs;
            case 5: return coast.rinse;
            case 6: return coast.bound;
            case 7: return present.sky.martins;
            case 8: return present.sky.pegs;
            case 9: return present.sky.resting;
            case 10: return present.sky.allBlue();
            case 11: return present.acts.kept;
            case 12: return present.seen;
            case 13: return tape.length;
            case 14: return present.refused(REFUSED_TEXTS);
            case 15: return present.refused(REFUSED_ACTS);
            case 16: return present.refused(REFUSED_SEEN);
            default: throw new NoSuchElementException();
        }
    }

    public int cell(int cell, int what) throws NoSuchElementException {
        needCell(cell);
        switch (what) {
            case 0: return present.sky.blueOf(cell);
            case 1: return coast.besideBits(cell);
            case 2: return present.sky.girlsAt(cell);
            case 3: return present.sky.patchBits(cell, 0);
            default: throw new NoSuchElementException();
        }
    }

    public int girl(int girl, int what) throws NoSuchElementException {
        needGirl(girl);
        switch (what) {
            case 0: return present.sky.skillOf(girl);
            case 1: return present.sky.spotOf(girl);
            case 2: return coast.isOld(girl) ? 1 : 0;
            case 3: return present.sky.dyeOf(girl, Math.max(0, present.sky.knobs - 1));
            default: throw new NoSuchElementException();
        }
    }

    // ---- acts

    public int days(int many) {
        if (many < 1 || many > MOST_DAYS_BY || many > MOST_DAY - present.sky.day) return refuseAct();
        present.keepAct();
        for (int d = 0; d < many; d++) present.sky.passDay();
        return present.sky.day;
    }

    public boolean rest(int girl, boolean is) throws NoSuchElementException {
        needGirl(girl);
        if (present.sky.isResting(girl) == is) {
            present.refuse(REFUSED_ACTS);
            return false;
        }
        present.keepAct();
        present.sky.setResting(girl, is);
        return true;
    }

    public int go(int girl, int cell) throws NoSuchElementException {
        needGirl(girl);
        needCell(cell);
        int from = present.sky.spotOf(girl);
        if (from == cell) return refuseAct();
        present.keepAct();
        present.sky.setSpot(girl, cell);
        return from;
    }

    public int bag(int more) {
        if (more < 1 || more > MOST_KNOBS_MORE) return refuseAct();
        present.keepAct();
        present.sky.addKnobs(more);
        return present.sky.knobs;
    }

    public int peg(int cell, boolean is) throws NoSuchElementException {
        needCell(cell);
        if (present.sky.isPegged(cell) == is) return refuseAct();
        present.keepAct();
        int was = present.sky.blueOf(cell);
        present.sky.setPeg(cell, is);
        return was;
    }

    public int undo() {
        if (!present.acts.takeBack(present.sky)) return NONE;
        return present.acts.kept;
    }

    // ---- what will be so, if only days go by

    public int then(int cell, int days) throws NoSuchElementException, IllegalArgumentException {
        needCell(cell);
        needWithin(days, 0, MOST_AHEAD);
        lookAhead(days);
        return trial.blueOf(cell);
    }

    public int sky(int days, int what) throws NoSuchElementException, IllegalArgumentException {
        needWhat(what, 4);
        needWithin(days, 0, MOST_AHEAD);
        lookAhead(days);
        switch (what) {
            case 0: return trial.knobs;
            case 1: return trial.martins;
            case 2: return trial.uneven();
            case 3: return trial.deepest();
            default: return trial.palest();
        }
    }

    public int overdone(int k) throws IllegalArgumentException {
        needWithin(k, 1, MOST_AHEAD);
        lookAhead(k);
        return trial.overdone;
    }

    public int first(int cell) throws NoSuchElementException {
        needCell(cell);
        lookAhead(0);
        for (int k = 1; k <= MOST_AHEAD; k++) {
            trial.passDay();
            if ((trial.overdone >> cell & 1) != 0) return k;
        }
        return NONE;
    }

    public int spent() {
        lookAhead(0);
        for (int days = 0; days <= MOST_AHEAD; days++) {
            if (trial.knobs == 0) return days;
            trial.passDay();
        }
        return NONE;
    }

    public int band(int days) throws IllegalArgumentException {
        needWithin(days, 0, MOST_AHEAD);
        lookAhead(days);
        int best = 0;
        for (int y = 1; y < coast.high; y++) {
            if (trial.rowBlue(y) > trial.rowBlue(best)) best = y;
        }
        return best;
    }

    public int steady() {
        lookAhead(0);
        for (int days = 1; days <= MOST_AHEAD; days++) {
            trial.passDay();
            if (trial.isAsInTheMorning()) return days;
        }
        return NONE;
    }

    // ---- streaks, patches, ways

    public int streak(int what) throws NoSuchElementException {
        needWhat(what, 1);
        int longest = 0;
        int start = 0;
        for (int c = 0; c < coast.cells(); c++) {
            int run = present.sky.runFrom(c);
            if (run > longest) {
                longest = run;
                start = c;
            }
        }
        return what == 0 ? longest : start;
    }

    public int patch(int cell, int off) throws NoSuchElementException, IllegalArgumentException {
        needCell(cell);
        needWithin(off, 0, MOST_BLUE);
        return present.sky.patchBits(cell, off);
    }

    public int patches(int off) throws IllegalArgumentException {
        needWithin(off, 0, MOST_BLUE);
        int many = 0;
        int done = 0;
        for (int c = 0; c < coast.cells(); c++) {
            if ((done >> c & 1) == 0) {
                done |= present.sky.patchBits(c, off);
                many++;
            }
        }
        return many;
    }

    public int way(int cell, int other) throws NoSuchElementException {
        needCell(cell);
        needCell(other);
        return present.sky.wayBetween(cell, other);
    }

    public int steps(int girl, int cell) throws NoSuchElementException {
        needGirl(girl);
        needCell(cell);
        return coast.stepsBetween(present.sky.spotOf(girl), cell);
    }

    public int nearest(int cell) throws NoSuchElementException {
        needCell(cell);
        int best = NONE;
        int least = ABOVE_ALL;
        for (int g = 0; g < coast.girls; g++) {
            int far = coast.stepsBetween(present.sky.spotOf(g), cell);
            if (far < least) {
                least = far;
                best = g;
            }
        }
        return best;
    }

    // ---- who should rest, stand, swish, be sent

    public int toRest() {
        lookAhead(1);
        int best = NONE;
        int least = trial.uneven();
        for (int g = 0; g < coast.girls; g++) {
            if (!present.sky.isResting(g)) {
                lookAheadIfResting(g, true);
                int uneven = trial.uneven();
                if (uneven < least) {
                    least = uneven;
                    best = g;
                }
            }
        }
        return best;
    }

    public int toStand(int girl, int what) throws NoSuchElementException {
        needGirl(girl);
        needWhat(what, 1);
        int best = 0;
        int least = ABOVE_ALL;
        for (int c = 0; c < coast.cells(); c++) {
            lookAhead(0);
            trial.setSpot(girl, c);
            trial.passDay();
            int uneven = trial.uneven();
            if (uneven < least) {
                least = uneven;
                best = c;
            }
        }
        return what == 0 ? best : least;
    }

    public int toSwish(int girl, int blue) throws NoSuchElementException, IllegalArgumentException {
        needGirl(girl);
        needWithin(blue, 0, MOST_BLUE);
        lookAhead(0);
        int cell = trial.spotOf(girl);
        for (int times = 0; times <= MOST_SWISHES; times++) {
            if (trial.blueOf(cell) >= blue) return times;
            trial.swish(girl, trial.knobs);
        }
        return NONE;
    }

    public int sent(int cells, int cell) throws NoSuchElementException, IllegalArgumentException {
        if (cells < 0 || cells >>> coast.cells() != 0 || Integer.bitCount(cells) > MOST_SENT) {
            throw new IllegalArgumentException();
        }
        if (cell != NONE) {
            needCell(cell);
            if ((cells >> cell & 1) == 0) throw new NoSuchElementException();
        }
        if (!sending.find(cells)) return TOO_FEW_GIRLS;
        return cell == NONE ? sending.least : sending.girlFor(cell);
    }

    public int missed(int girl) throws NoSuchElementException {
        needGirl(girl);
        lookAheadIfResting(girl, true);
        int without = trial.allBlue();
        lookAheadIfResting(girl, false);
        return trial.allBlue() - without;
    }

    // ---- what is seen, and whose skill would fit it

    public int see(int cell, int days, int blue) throws NoSuchElementException {
        needCell(cell);
        if (days < 0 || days > MOST_SEEN_DAYS || blue < 0 || blue > MOST_BLUE || !present.addSeen(cell, days, blue)) {
            present.refuse(REFUSED_SEEN);
            return NONE;
        }
        return present.seen;
    }

    public int skilled(int what) throws NoSuchElementException {
        needWhat(what, 2);
        if (what == 2) return wouldFit(NONE, 0) ? 1 : 0;
        int many = 0;
        int first = NONE;
        for (int g = 0; g < coast.girls; g++) {
            for (int s = 0; s <= MOST_SKILL; s++) {
                if (s != present.sky.skillOf(g) && wouldFit(g, s)) {
                    if (many == 0) first = 10 * g + s;
                    many++;
                }
            }
        }
        return what == 0 ? many : first;
    }

    public int look(int what) throws NoSuchElementException {
        needWhat(what, 1);
        clearBlues();
        for (int g = 0; g < coast.girls; g++) {
            for (int s = 0; s <= MOST_SKILL; s++) {
                if (s != present.sky.skillOf(g) && wouldFit(g, s)) gatherBlues(g, s);
            }
        }
        int best = NONE;
        int most = 0;
        for (int c = 0; c < coast.cells(); c++) {
            int unlike = unlikeBlues(c);
            if (unlike > most) {
                most = unlike;
                best = c;
            }
        }
        return what == 0 ? best : most;
    }

    public void forget() {
        present.seen = 0;
    }

    // ---- games and seeds

    public int game(int girl, int other, int what) throws NoSuchElementException, IllegalArgumentException {
        needGirl(girl);
        needGirl(other);
        needWhat(what, 1);
        if (girl == other) throw new IllegalArgumentException();
        playAll(girl, other);
        int many = 0;
        int first = NONE;
        for (int a = 0; a <= 1; a++) {
            for (int b = 0; b <= 1; b++) {
                boolean rests = gainAt(0, a, b) >= gainAt(0, 1 - a, b) && gainAt(1, a, b) >= gainAt(1, a, 1 - b);
                if (rests) {
                    if (many == 0) first = 10 * a + b;
                    many++;
                }
            }
        }
        return what == 0 ? many : first;
    }

    public int skies(int seed, int n, int what) throws NoSuchElementException, IllegalArgumentException {
        needWhat(what, 2);
        needWithin(n, 0, MOST_AHEAD);
        lookAhead(0);
        dice.seed = seed;
        for (int d = 0; d < n; d++) {
            drawAhead();
            trial.passDay();
        }
        switch (what) {
            case 0: return trial.martins - present.sky.martins;
            case 1: return trial.allBlue();
            default: return trial.knobs;
        }
    }

    // ---- the image

    public void image() {
        pictured.copyFrom(present);
        isPictured = true;
    }

    public boolean restore() {
        if (!isPictured) return false;
        present.copyFrom(pictured);
        return true;
    }

    // ---- what the calls have in common

    private void needCell(int cell) {
        if (cell < 0 || cell >= coast.cells()) throw new NoSuchElementException();
    }

    private void needGirl(int girl) {
        if (girl < 0 || girl >= coast.girls) throw new NoSuchElementException();
    }

    private void needWhat(int what, int most) {
        if (what < 0 || what > most) throw new NoSuchElementException();
    }

    private void needWithin(int number, int least, int most) {
        if (number < least || number > most) throw new IllegalArgumentException();
    }

    private int refuseAct() {
        present.refuse(REFUSED_ACTS);
        return NONE;
    }

    private void lookAhead(int days) {
        trial.copyFrom(present.sky);
        for (int d = 0; d < days; d++) trial.passDay();
    }

    private void lookAheadIfResting(int girl, boolean is) {
        trial.copyFrom(present.sky);
        trial.setResting(girl, is);
        trial.passDay();
    }

    private boolean wouldFit(int girl, int skill) {
        trial.copyFrom(present.sky);
        trial.setSkill(girl, skill);
        int last = present.lastSeenDay();
        for (int d = 0; d <= last; d++) {
            if (!present.fitsSeen(trial, d)) return false;
            if (d < last) trial.passDay();
        }
        return true;
    }

    private void clearBlues() {
        for (int c = 0; c < MOST_CELLS; c++) {
            lowBlues[c] = 0;
            highBlues[c] = 0;
        }
    }

    private void gatherBlues(int girl, int skill) {
        trial.copyFrom(present.sky);
        trial.setSkill(girl, skill);
        for (int d = 0; d < LOOK_DAYS; d++) trial.passDay();
        for (int c = 0; c < MOST_CELLS; c++) {
            int blue = trial.blueOf(c);
            if (blue < 64) {
                lowBlues[c] |= 1L << blue;
            } else {
                highBlues[c] |= 1L << (blue - 64);
            }
        }
    }

    private int unlikeBlues(int c) {
        if (c < 0 || c >= MOST_CELLS) return 0;
        return Long.bitCount(lowBlues[c]) + Long.bitCount(highBlues[c]);
    }

    private void playAll(int girl, int other) {
        for (int a = 0; a <= 1; a++) {
            for (int b = 0; b <= 1; b++) {
                trial.copyFrom(present.sky);
                trial.setResting(girl, a == 0);
                trial.setResting(other, b == 0);
                trial.passDay();
                int lost = 10 * Integer.bitCount(trial.overdone);
                gains[2 * a + b] = trial.blueOf(trial.spotOf(girl)) - lost - 2 * a;
                gains[4 + 2 * a + b] = trial.blueOf(trial.spotOf(other)) - lost - 2 * b;
            }
        }
    }

    private int gainAt(int who, int a, int b) {
        int at = 4 * who + 2 * a + b;
        return at >= 0 && at < gains.length ? gains[at] : 0;
    }

    private void drawAhead() {
        switch (dice.draw(DRAWS_AHEAD)) {
            case 0:
                trial.addBlue(dice.draw(coast.cells()), DRAWN_BLUE);
                break;
            case 1:
                if (coast.girls > 0) {
                    int girl = dice.draw(coast.girls);
                    trial.setSpot(girl, dice.draw(coast.cells()));
                }
                break;
            case 2:
                trial.addKnobs(DRAWN_KNOBS);
                break;
            default:
                break;
        }
    }

    /** The bytes that wait for being told as a text. */
    private static final class Tape {
        private final byte[] bytes = new byte[MOST_TEXT];
        private int length;

        boolean hasRoomFor(int more) {
            return length + more <= MOST_TEXT;
        }

        void put(int number) {
            for (int shift = 24; shift >= 0; shift -= 8) {
                if (length >= 0 && length < bytes.length) {
                    bytes[length] = (byte) (number >> shift);
                    length++;
                }
            }
        }

        int byteAt(int i) {
            return i >= 0 && i < length && i < bytes.length ? bytes[i] & 255 : NONE;
        }

        void clear() {
            length = 0;
        }
    }

    /** The tokens of a text, one at a time, and the first fault found in it. */
    private static final class Tokens {
        static final int END = -1;
        static final int WORD = -2;
        static final int NUMBER = -3;
        static final int MOST_DIGITS = 4;

        private final Tape tape;
        private int end;
        /** END, WORD, NUMBER, or the byte itself: one that is no sign is then expected nowhere. */
        private int kind;
        private int start;
        private int next;
        private int number;
        private int fault;
        private int faultPlace;

        Tokens(Tape tape) {
            this.tape = tape;
        }

        void begin(int length) {
            end = length;
            next = 0;
            fault = 0;
            faultPlace = NONE;
            advance();
        }

        void advance() {
            start = next;
            while (start < end && isBlank(tape.byteAt(start))) start++;
            next = start;
            number = 0;
            if (start >= end) {
                kind = END;
            } else if (isLetter(tape.byteAt(start))) {
                kind = WORD;
                while (next < end && isLetter(tape.byteAt(next))) next++;
            } else if (isDigit(tape.byteAt(start))) {
                kind = NUMBER;
                while (next < end && isDigit(tape.byteAt(next))) {
                    if (next - start < MOST_DIGITS) number = 10 * number + tape.byteAt(next) - '0';
                    next++;
                }
            } else {
                kind = tape.byteAt(start);
                next++;
            }
        }

        boolean isWord(String word) {
            if (kind != WORD || next - start != word.length()) return false;
            for (int i = 0; i < word.length(); i++) {
                if (tape.byteAt(start + i) != word.charAt(i)) return false;
            }
            return true;
        }

        boolean isTooLong() {
            return kind == NUMBER && next - start > MOST_DIGITS;
        }

        boolean refuse(int why) {
            if (fault == 0) {
                fault = why;
                faultPlace = start;
            }
            return false;
        }

        /** Goes over the sign that must stand here. */
        boolean passes(int sign) {
            if (kind != sign) return refuse(1);
            advance();
            return true;
        }

        private static boolean isBlank(int b) {
            return b == ' ' || b == '\n';
        }

        private static boolean isLetter(int b) {
            return b >= 'a' && b <= 'z';
        }

        private static boolean isDigit(int b) {
            return b >= '0' && b <= '9';
        }
    }

    /** An expression as a row of steps over a stack: what is worked out first stands first. */
    private static final class Rule {
        static final int BLUE = 0;
        static final int BESIDE = 1;
        static final int ROW = 2;
        static final int DAY = 3;
        static final int SKILL = 4;
        static final int LEFT = 5;
        static final int VALUES = 6;

        /** A step of 0 or more is a number, one below 0 down to -VALUES a value, one below that is one of these. */
        static final int OR = -11;
        static final int AND = -12;
        static final int NOT = -13;
        static final int LESS = -14;
        static final int LIKE = -15;
        static final int PLUS = -16;
        static final int MINUS = -17;
        static final int TIMES = -18;
        static final int OVER = -19;

        /** Six expressions one within another leave at most five waiting values each. */
        private static final int STACK = 40;

        private final int[] code = new int[MOST_TEXT];
        private final int[] stack = new int[STACK];
        private int length;

        void clear() {
            length = 0;
        }

        boolean isTold() {
            return length > 0;
        }

        void put(int step) {
            if (length >= 0 && length < code.length) {
                code[length] = step;
                length++;
            }
        }

        void putValue(int value) {
            put(-1 - value);
        }

        void copyFrom(Rule other) {
            System.arraycopy(other.code, 0, code, 0, MOST_TEXT);
            length = other.length;
        }

        int worth(int[] values) {
            int top = 0;
            for (int i = 0; i < length && i < code.length; i++) {
                int step = code[i];
                if (step >= -VALUES) {
                    int value = -1 - step;
                    if (top < STACK) {
                        stack[top] = value >= 0 && value < values.length ? values[value] : step;
                        top++;
                    }
                } else if (step == NOT) {
                    if (top >= 1) stack[top - 1] = stack[top - 1] == 0 ? 1 : 0;
                } else if (top >= 2) {
                    top--;
                    stack[top - 1] = joined(step, stack[top - 1], stack[top]);
                }
            }
            return top >= 1 ? stack[top - 1] : 0;
        }

        private static int joined(int step, int left, int right) {
            switch (step) {
                case OR: return left != 0 || right != 0 ? 1 : 0;
                case AND: return left != 0 && right != 0 ? 1 : 0;
                case LESS: return left < right ? 1 : 0;
                case LIKE: return left == right ? 1 : 0;
                case PLUS: return left + right;
                case MINUS: return left - right;
                case TIMES: return left * right;
                default: return right == 0 ? 0 : left / right;
            }
        }
    }

    /** Reads an expression, token by token, into a rule. */
    private static final class RuleReader {
        private static final int MOST_WITHIN = 6;
        private static final int MOST_NOTS = 6;

        private final Tokens tokens;
        private Rule rule;
        private boolean isOfDyes;

        RuleReader(Tokens tokens, Rule rule) {
            this.tokens = tokens;
            this.rule = rule;
        }

        void begin(Rule into, boolean dyes) {
            rule = into;
            isOfDyes = dyes;
            rule.clear();
        }

        private boolean readExpr(int within) {
            boolean opens = tokens.kind == Tokens.NUMBER || tokens.kind == Tokens.WORD || tokens.kind == '(';
            if (within >= MOST_WITHIN && opens) return tokens.refuse(2);
            if (!readAnd(within)) return false;
            for (int n = 0; n < MOST_TEXT && tokens.isWord("or"); n++) {
                tokens.advance();
                if (!readAnd(within)) return false;
                rule.put(Rule.OR);
            }
            return true;
        }

        private boolean readAnd(int within) {
            if (!readNot(within)) return false;
            for (int n = 0; n < MOST_TEXT && tokens.isWord("and"); n++) {
                tokens.advance();
                if (!readNot(within)) return false;
                rule.put(Rule.AND);
            }
            return true;
        }

        private boolean readNot(int within) {
            int nots = 0;
            while (nots < MOST_NOTS && tokens.isWord("not")) {
                tokens.advance();
                nots++;
            }
            if (nots == MOST_NOTS && tokens.isWord("not")) return tokens.refuse(2);
            if (!readTest(within)) return false;
            for (int n = 0; n < nots; n++) rule.put(Rule.NOT);
            return true;
        }

        private boolean readTest(int within) {
            if (!readSum(within)) return false;
            if (tokens.kind != '<' && tokens.kind != '=') return true;
            int step = tokens.kind == '<' ? Rule.LESS : Rule.LIKE;
            tokens.advance();
            if (!readSum(within)) return false;
            rule.put(step);
            return true;
        }

        private boolean readSum(int within) {
            if (!readProduct(within)) return false;
            for (int n = 0; n < MOST_TEXT && (tokens.kind == '+' || tokens.kind == '-'); n++) {
                int step = tokens.kind == '+' ? Rule.PLUS : Rule.MINUS;
                tokens.advance();
                if (!readProduct(within)) return false;
                rule.put(step);
            }
            return true;
        }

        private boolean readProduct(int within) {
            if (!readPart(within)) return false;
            for (int n = 0; n < MOST_TEXT && (tokens.kind == '*' || tokens.kind == '/'); n++) {
                int step = tokens.kind == '*' ? Rule.TIMES : Rule.OVER;
                tokens.advance();
                if (!readPart(within)) return false;
                rule.put(step);
            }
            return true;
        }

        private boolean readPart(int within) {
            if (tokens.kind == Tokens.NUMBER) {
                if (tokens.isTooLong()) return tokens.refuse(2);
                rule.put(tokens.number);
                tokens.advance();
                return true;
            }
            if (tokens.kind == Tokens.WORD) {
                int value = valueHere();
                if (value == NONE) return tokens.refuse(3);
                rule.putValue(value);
                tokens.advance();
                return true;
            }
            if (tokens.kind != '(' || within >= MOST_WITHIN) return tokens.refuse(1);
            tokens.advance();
            return readExpr(within + 1) && tokens.passes(')');
        }

        private int valueHere() {
            if (tokens.isWord("blue")) return Rule.BLUE;
            if (tokens.isWord("beside")) return Rule.BESIDE;
            if (tokens.isWord("row")) return Rule.ROW;
            if (tokens.isWord("day")) return Rule.DAY;
            if (isOfDyes && tokens.isWord("skill")) return Rule.SKILL;
            if (isOfDyes && tokens.isWord("left")) return Rule.LEFT;
            return NONE;
        }
    }

    /** What a text tells and no act changes. */
    private static final class Coast {
        private int wide;
        private int high;
        private int rinse;
        private int bound;
        private int girls;
        private int olds;
        private final int[] beside = new int[MOST_CELLS];
        private final Rule dyes = new Rule();
        private final Rule fades = new Rule();

        Coast() {
            begin();
        }

        void begin() {
            shape(START_WIDE, START_HIGH);
            rinse = START_RINSE;
            bound = START_BOUND;
            girls = 0;
            olds = 0;
            dyes.clear();
            fades.clear();
        }

        void shape(int cellsWide, int cellsHigh) {
            wide = cellsWide;
            high = cellsHigh;
            for (int c = 0; c < MOST_CELLS; c++) beside[c] = c < cells() ? bitsBeside(c) : 0;
        }

        private int bitsBeside(int c) {
            int bits = 0;
            if (c >= wide) bits |= 1 << (c - wide);
            if (c + wide < cells()) bits |= 1 << (c + wide);
            if (columnOf(c) > 0) bits |= 1 << (c - 1);
            if (columnOf(c) < wide - 1) bits |= 1 << (c + 1);
            return bits;
        }

        void copyFrom(Coast other) {
            shape(other.wide, other.high);
            rinse = other.rinse;
            bound = other.bound;
            girls = other.girls;
            olds = other.olds;
            dyes.copyFrom(other.dyes);
            fades.copyFrom(other.fades);
        }

        int cells() {
            return wide * high;
        }

        int rowOf(int c) {
            return wide > 0 ? c / wide : 0;
        }

        int columnOf(int c) {
            return wide > 0 ? c % wide : 0;
        }

        boolean isOld(int g) {
            return (olds >> g & 1) != 0;
        }

        int besideBits(int c) {
            return c >= 0 && c < MOST_CELLS ? beside[c] : 0;
        }

        int stepsBetween(int from, int to) {
            return Math.abs(rowOf(from) - rowOf(to)) + Math.abs(columnOf(from) - columnOf(to));
        }
    }

    /** All that days and acts change, and how a day goes. */
    private static final class Sky {
        /** How many numbers it takes to keep what acts change. */
        static final int ROW = MOST_CELLS + MOST_GIRLS + 5;

        private final Coast coast;
        private final int[] blue = new int[MOST_CELLS];
        private final int[] morning = new int[MOST_CELLS];
        private final int[] less = new int[MOST_CELLS];
        private final int[] spot = new int[MOST_GIRLS];
        private final int[] skill = new int[MOST_GIRLS];
        private final int[] values = new int[Rule.VALUES];
        private int pegs;
        private int resting;
        private int knobs;
        private int martins;
        private int day;
        private int overdone;

        Sky(Coast coast) {
            this.coast = coast;
            begin();
        }

        void begin() {
            for (int c = 0; c < MOST_CELLS; c++) blue[c] = 0;
            for (int g = 0; g < MOST_GIRLS; g++) {
                spot[g] = 0;
                skill[g] = 0;
            }
            pegs = 0;
            resting = 0;
            knobs = START_KNOBS;
            martins = 0;
            day = 0;
            overdone = 0;
        }

        void copyFrom(Sky other) {
            System.arraycopy(other.blue, 0, blue, 0, MOST_CELLS);
            System.arraycopy(other.spot, 0, spot, 0, MOST_GIRLS);
            System.arraycopy(other.skill, 0, skill, 0, MOST_GIRLS);
            pegs = other.pegs;
            resting = other.resting;
            knobs = other.knobs;
            martins = other.martins;
            day = other.day;
            overdone = other.overdone;
        }

        void save(int[] rows, int at) {
            if (at < 0 || at > rows.length - ROW) return;
            System.arraycopy(blue, 0, rows, at, MOST_CELLS);
            System.arraycopy(spot, 0, rows, at + MOST_CELLS, MOST_GIRLS);
            int tail = at + MOST_CELLS + MOST_GIRLS;
            rows[tail] = pegs;
            rows[tail + 1] = resting;
            rows[tail + 2] = knobs;
            rows[tail + 3] = martins;
            rows[tail + 4] = day;
        }

        void load(int[] rows, int at) {
            if (at < 0 || at > rows.length - ROW) return;
            System.arraycopy(rows, at, blue, 0, MOST_CELLS);
            System.arraycopy(rows, at + MOST_CELLS, spot, 0, MOST_GIRLS);
            int tail = at + MOST_CELLS + MOST_GIRLS;
            pegs = rows[tail];
            resting = rows[tail + 1];
            knobs = rows[tail + 2];
            martins = rows[tail + 3];
            day = rows[tail + 4];
        }

        int blueOf(int c) {
            return c >= 0 && c < MOST_CELLS ? blue[c] : 0;
        }

        int spotOf(int g) {
            return g >= 0 && g < MOST_GIRLS ? spot[g] : 0;
        }

        int skillOf(int g) {
            return g >= 0 && g < MOST_GIRLS ? skill[g] : 0;
        }

        boolean isPegged(int c) {
            return (pegs >> c & 1) != 0;
        }

        boolean isResting(int g) {
            return (resting >> g & 1) != 0;
        }

        void setSpot(int g, int c) {
            if (g >= 0 && g < MOST_GIRLS) spot[g] = c;
        }

        void setSkill(int g, int s) {
            if (g >= 0 && g < MOST_GIRLS) skill[g] = s;
        }

        void setResting(int g, boolean is) {
            resting = is ? resting | 1 << g : resting & ~(1 << g);
        }

        void setPeg(int c, boolean is) {
            pegs = is ? pegs | 1 << c : pegs & ~(1 << c);
            if (is && c >= 0 && c < MOST_CELLS) blue[c] = 0;
        }

        void addKnobs(int more) {
            knobs = Math.min(MOST_KNOBS, knobs + more);
        }

        void addBlue(int c, int more) {
            if (c >= 0 && c < MOST_CELLS && !isPegged(c)) blue[c] = Math.min(MOST_BLUE, blue[c] + more);
        }

        void passDay() {
            System.arraycopy(blue, 0, morning, 0, MOST_CELLS);
            for (int g = 0; g < coast.girls; g++) {
                if (!isResting(g) && knobs > 0) {
                    knobs--;
                    swish(g, knobs);
                }
            }
            markOverdone();
            for (int c = 0; c < MOST_CELLS; c++) blue[c] = Math.max(0, blue[c] - coast.rinse);
            fade();
            day++;
        }

        /** Whether the day that went by last left all blue as it was. */
        boolean isAsInTheMorning() {
            for (int c = 0; c < MOST_CELLS; c++) {
                if (blue[c] != morning[c]) return false;
            }
            return true;
        }

        private void markOverdone() {
            overdone = 0;
            for (int c = 0; c < MOST_CELLS; c++) {
                if (blue[c] > coast.bound) overdone |= 1 << c;
            }
            martins = Math.min(MOST_MARTINS, martins + Integer.bitCount(overdone));
        }

        private void fade() {
            for (int c = 0; c < MOST_CELLS; c++) less[c] = fadeOf(c);
            for (int c = 0; c < MOST_CELLS; c++) blue[c] -= less[c];
        }

        private int fadeOf(int c) {
            if (!coast.fades.isTold()) return blueOf(c) / 5;
            if (blueOf(c) == 0) return 0;
            setValues(c);
            return Math.max(0, Math.min(blueOf(c), coast.fades.worth(values)));
        }

        void swish(int g, int left) {
            int dye = dyeOf(g, left);
            int c = spotOf(g);
            addBlue(c, dye);
            if (coast.isOld(g)) {
                drip(c, dye / 2);
            } else {
                int beside = coast.besideBits(c);
                for (int n = 0; n < coast.cells(); n++) {
                    if ((beside >> n & 1) != 0) addBlue(n, dye / 2);
                }
            }
        }

        private void drip(int from, int dye) {
            int drop = dye;
            for (int c = 0; c < coast.cells(); c++) {
                if (c > from && coast.columnOf(c) == coast.columnOf(from)) {
                    addBlue(c, drop);
                    drop /= 2;
                }
            }
        }

        int dyeOf(int g, int left) {
            if (!coast.dyes.isTold()) return 2 * skillOf(g) + 3;
            setValues(spotOf(g));
            values[Rule.SKILL] = skillOf(g);
            values[Rule.LEFT] = left;
            return Math.max(0, Math.min(MOST_DYE, coast.dyes.worth(values)));
        }

        private void setValues(int c) {
            int beside = coast.besideBits(c);
            int sum = 0;
            for (int n = 0; n < MOST_CELLS; n++) {
                if ((beside >> n & 1) != 0) sum += blue[n];
            }
            values[Rule.BLUE] = blueOf(c);
            values[Rule.BESIDE] = sum;
            values[Rule.ROW] = coast.rowOf(c);
            values[Rule.DAY] = day;
        }

        int allBlue() {
            int sum = 0;
            for (int c = 0; c < MOST_CELLS; c++) sum += blue[c];
            return sum;
        }

        int rowBlue(int y) {
            int sum = 0;
            for (int c = 0; c < coast.cells(); c++) {
                if (coast.rowOf(c) == y) sum += blueOf(c);
            }
            return sum;
        }

        int girlsAt(int c) {
            int bits = 0;
            for (int g = 0; g < coast.girls; g++) {
                if (spotOf(g) == c) bits |= 1 << g;
            }
            return bits;
        }

        int deepest() {
            int best = NONE;
            for (int c = 0; c < coast.cells(); c++) {
                if (!isPegged(c) && (best == NONE || blueOf(c) > blueOf(best))) best = c;
            }
            return best;
        }

        int palest() {
            int best = NONE;
            for (int c = 0; c < coast.cells(); c++) {
                if (!isPegged(c) && (best == NONE || blueOf(c) < blueOf(best))) best = c;
            }
            return best;
        }

        int uneven() {
            int dark = deepest();
            return dark == NONE ? NONE : blueOf(dark) - blueOf(palest());
        }

        /** How many cells from this one on, along its row, have blue like its own. */
        int runFrom(int c) {
            int run = 1;
            for (int n = c + 1; n < coast.cells(); n++) {
                if (coast.rowOf(n) != coast.rowOf(c) || blueOf(n) != blueOf(c)) return run;
                run++;
            }
            return run;
        }

        int patchBits(int c, int off) {
            int patch = 1 << c;
            for (int n = 0; n < MOST_CELLS; n++) {
                int wider = patch | besideWithin(patch, off);
                if (wider == patch) return patch;
                patch = wider;
            }
            return patch;
        }

        private int besideWithin(int patch, int off) {
            int bits = 0;
            for (int c = 0; c < coast.cells(); c++) {
                int near = coast.besideBits(c) & patch;
                for (int n = 0; n < coast.cells(); n++) {
                    if ((near >> n & 1) != 0 && Math.abs(blueOf(n) - blueOf(c)) <= off) bits |= 1 << c;
                }
            }
            return bits;
        }

        int wayBetween(int from, int to) {
            if (isPegged(from) || isPegged(to)) return NONE;
            int reached = 1 << from;
            for (int steps = 0; steps < MOST_CELLS; steps++) {
                if ((reached >> to & 1) != 0) return steps;
                int wider = reached;
                for (int c = 0; c < coast.cells(); c++) {
                    if (!isPegged(c) && (coast.besideBits(c) & reached) != 0) wider |= 1 << c;
                }
                reached = wider;
            }
            return NONE;
        }
    }

    /** Reads a whole text, line by line, into a draft that counts only if there is no fault. */
    private static final class CoastReader {
        private static final int SKY = 1;
        private static final int KNOBS = 2;
        private static final int RINSE = 4;
        private static final int BOUND = 8;
        private static final int DYES = 16;
        private static final int FADES = 32;

        private final Tokens tokens;
        private final RuleReader rules;
        private final Coast draft = new Coast();
        private final Sky draftSky = new Sky(draft);
        private int told;
        private int blues;
        private boolean isCellTold;

        CoastReader(Tape tape) {
            tokens = new Tokens(tape);
            rules = new RuleReader(tokens, draft.dyes);
        }

        /** The kind of the first fault; 0 if there is none. */
        int read(int length) {
            draft.begin();
            draftSky.begin();
            told = 0;
            blues = 0;
            isCellTold = false;
            tokens.begin(length);
            boolean isGood = true;
            for (int n = 0; n < MOST_TEXT && isGood && tokens.kind != Tokens.END; n++) isGood = readLine();
            return tokens.fault;
        }

        int faultPlace() {
            return tokens.faultPlace;
        }

        private boolean readLine() {
            if (tokens.isWord("sky")) return readSky();
            if (tokens.isWord("blue")) return readBlue();
            if (tokens.isWord("girl")) return readGirl(false);
            if (tokens.isWord("old")) return readGirl(true);
            if (tokens.isWord("peg")) return readPegs();
            if (tokens.isWord("knobs")) return readKnobs();
            if (tokens.isWord("rinse")) return readRinse();
            if (tokens.isWord("bound")) return readBound();
            if (tokens.isWord("dyes")) return readRule(DYES, draft.dyes);
            if (tokens.isWord("fades")) return readRule(FADES, draft.fades);
            return tokens.refuse(1);
        }

        private boolean readSky() {
            if (isCellTold) return tokens.refuse(4);
            if (!passesOnce(SKY)) return false;
            int wide = readNumber(1, MOST_WIDE);
            if (wide == NONE) return false;
            int high = readNumber(1, MOST_HIGH);
            if (high == NONE) return false;
            draft.shape(wide, high);
            return tokens.passes(';');
        }

        private boolean readBlue() {
            tokens.advance();
            int cell = readCell(blues);
            if (cell == NONE) return false;
            blues |= 1 << cell;
            int blue = readNumber(0, MOST_BLUE);
            if (blue == NONE) return false;
            draftSky.addBlue(cell, blue);
            return tokens.passes(';');
        }

        private boolean readGirl(boolean isOld) {
            if (draft.girls >= MOST_GIRLS) return tokens.refuse(2);
            tokens.advance();
            int skill = readNumber(0, MOST_SKILL);
            if (skill == NONE) return false;
            int cell = readCell(0);
            if (cell == NONE) return false;
            int girl = draft.girls;
            draft.girls++;
            if (isOld) draft.olds |= 1 << girl;
            draftSky.setSkill(girl, skill);
            draftSky.setSpot(girl, cell);
            return tokens.passes(';');
        }

        private boolean readPegs() {
            tokens.advance();
            int cell = readCell(draftSky.pegs);
            if (cell == NONE) return false;
            draftSky.setPeg(cell, true);
            for (int n = 0; n < MOST_TEXT && tokens.kind == Tokens.NUMBER; n++) {
                cell = readCell(draftSky.pegs);
                if (cell == NONE) return false;
                draftSky.setPeg(cell, true);
            }
            return tokens.passes(';');
        }

        private boolean readKnobs() {
            if (!passesOnce(KNOBS)) return false;
            int knobs = readNumber(0, MOST_KNOBS);
            if (knobs == NONE) return false;
            draftSky.knobs = knobs;
            return tokens.passes(';');
        }

        private boolean readRinse() {
            if (!passesOnce(RINSE)) return false;
            int rinse = readNumber(0, MOST_RINSE);
            if (rinse == NONE) return false;
            draft.rinse = rinse;
            return tokens.passes(';');
        }

        private boolean readBound() {
            if (!passesOnce(BOUND)) return false;
            int bound = readNumber(1, MOST_BOUND);
            if (bound == NONE) return false;
            draft.bound = bound;
            return tokens.passes(';');
        }

        private boolean readRule(int line, Rule rule) {
            if (!passesOnce(line)) return false;
            rules.begin(rule, line == DYES);
            return rules.readExpr(0) && tokens.passes(';');
        }

        /** Goes over the first word of a line that may stand but once. */
        private boolean passesOnce(int line) {
            if ((told & line) != 0) return tokens.refuse(5);
            told |= line;
            tokens.advance();
            return true;
        }

        private int readNumber(int least, int most) {
            if (tokens.kind != Tokens.NUMBER) return refuseNumber(1);
            int number = tokens.number;
            if (tokens.isTooLong() || number < least || number > most) return refuseNumber(2);
            tokens.advance();
            return number;
        }

        private int readCell(int taken) {
            if (tokens.kind != Tokens.NUMBER) return refuseNumber(1);
            int cell = tokens.number;
            if (tokens.isTooLong()) return refuseNumber(2);
            if (cell >= draft.cells()) return refuseNumber(3);
            if ((taken >> cell & 1) != 0) return refuseNumber(4);
            isCellTold = true;
            tokens.advance();
            return cell;
        }

        private int refuseNumber(int why) {
            tokens.refuse(why);
            return NONE;
        }
    }

    /** The skies as they were ahead of the acts that are kept, the oldest first. */
    private static final class Acts {
        private final int[] rows = new int[MOST_ACTS * Sky.ROW];
        private int kept;

        void clear() {
            kept = 0;
        }

        void copyFrom(Acts other) {
            System.arraycopy(other.rows, 0, rows, 0, MOST_ACTS * Sky.ROW);
            kept = other.kept;
        }

        void keep(Sky sky) {
            if (kept >= MOST_ACTS) {
                System.arraycopy(rows, Sky.ROW, rows, 0, (MOST_ACTS - 1) * Sky.ROW);
                kept = MOST_ACTS - 1;
            }
            sky.save(rows, kept * Sky.ROW);
            kept++;
        }

        boolean takeBack(Sky sky) {
            if (kept <= 0) return false;
            kept--;
            sky.load(rows, kept * Sky.ROW);
            return true;
        }
    }

    /** All that an image keeps. */
    private static final class Memory {
        private final Sky sky;
        private final Acts acts = new Acts();
        private final int[] seenCells = new int[MOST_SEEN];
        private final int[] seenDays = new int[MOST_SEEN];
        private final int[] seenBlues = new int[MOST_SEEN];
        private final int[] status = new int[STATUS_ROWS];
        private int seen;

        Memory(Coast coast) {
            sky = new Sky(coast);
        }

        /** Takes up another text's sky; only the status goes on. */
        void begin(Sky other) {
            sky.copyFrom(other);
            acts.clear();
            seen = 0;
        }

        void copyFrom(Memory other) {
            sky.copyFrom(other.sky);
            acts.copyFrom(other.acts);
            System.arraycopy(other.seenCells, 0, seenCells, 0, MOST_SEEN);
            System.arraycopy(other.seenDays, 0, seenDays, 0, MOST_SEEN);
            System.arraycopy(other.seenBlues, 0, seenBlues, 0, MOST_SEEN);
            System.arraycopy(other.status, 0, status, 0, STATUS_ROWS);
            seen = other.seen;
        }

        void keepAct() {
            acts.keep(sky);
        }

        void refuse(int row) {
            if (row >= 0 && row < STATUS_ROWS) status[row]++;
        }

        int refused(int row) {
            return row >= 0 && row < STATUS_ROWS ? status[row] : 0;
        }

        boolean addSeen(int c, int days, int blue) {
            if (seen < 0 || seen >= MOST_SEEN) return false;
            seenCells[seen] = c;
            seenDays[seen] = days;
            seenBlues[seen] = blue;
            seen++;
            return true;
        }

        int lastSeenDay() {
            int last = 0;
            for (int i = 0; i < seen && i < MOST_SEEN; i++) last = Math.max(last, seenDays[i]);
            return last;
        }

        /** Whether a sky that many days on is as all that is seen of that day. */
        boolean fitsSeen(Sky other, int days) {
            for (int i = 0; i < seen && i < MOST_SEEN; i++) {
                if (seenDays[i] == days && other.blueOf(seenCells[i]) != seenBlues[i]) return false;
            }
            return true;
        }
    }

    /** Finds who goes to which cell by fewest steps. */
    private static final class Sending {
        private final int[] goals = new int[MOST_SENT];
        private final int[] row = new int[MOST_SENT];
        private final int[] bestRow = new int[MOST_SENT];
        private final Sky sky;
        private int many;
        private int least;

        Sending(Sky sky) {
            this.sky = sky;
        }

        /** False if there are fewer girls than cells. */
        boolean find(int cells) {
            many = 0;
            for (int c = 0; c < MOST_CELLS; c++) {
                if ((cells >> c & 1) != 0 && many < MOST_SENT) {
                    goals[many] = c;
                    many++;
                }
            }
            if (many > sky.coast.girls) return false;
            least = ABOVE_ALL;
            fill(0, 0, 0);
            return true;
        }

        int girlFor(int c) {
            for (int i = 0; i < many && i < MOST_SENT; i++) {
                if (goals[i] == c) return bestRow[i];
            }
            return NONE;
        }

        /** Tries the rows in their order, so that of like ones the first is kept. */
        private void fill(int at, int taken, int steps) {
            if (steps >= least) return;
            if (at >= many || at >= MOST_SENT) {
                least = steps;
                System.arraycopy(row, 0, bestRow, 0, MOST_SENT);
                return;
            }
            for (int g = 0; g < sky.coast.girls; g++) {
                if ((taken >> g & 1) == 0) {
                    row[at] = g;
                    fill(at + 1, taken | 1 << g, steps + sky.coast.stepsBetween(sky.spotOf(g), goals[at]));
                }
            }
        }
    }

    /** The seed of the skies and what is drawn by it. */
    private static final class Dice {
        private int seed;

        int draw(int n) {
            seed = seed * 1103515245 + 12345;
            int bits = seed >>> 16 & 0x7fff;
            return n > 0 ? bits % n : 0;
        }
    }
}
