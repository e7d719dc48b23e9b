import java.util.ArrayList;
import java.util.List;

/** Holds the class against the model, on runs of calls that a fixed seed makes. */
public final class ModelTest {
    private static final int RUNS = 600;
    private static final int TEXTS = 30000;

    private static long seed = 1;

    private static int draw(int n) {
        seed = seed * 6364136223846793005L + 1442695040888963407L;
        return (int) ((seed >>> 33) % n);
    }

    private static String one(String... of) {
        return of[draw(of.length)];
    }

    // ---- texts

    private static String part(boolean dyes, int depth) {
        int kind = draw(10);
        if (kind < 3) return String.valueOf(draw(5) == 0 ? draw(10000) : draw(12));
        if (kind < 8 || depth == 0) {
            return dyes ? one("blue", "beside", "row", "day", "skill", "left") : one("blue", "beside", "row", "day");
        }
        return "(" + expr(dyes, depth - 1) + ")";
    }

    private static String expr(boolean dyes, int depth) {
        StringBuilder e = new StringBuilder();
        int parts = 1 + draw(4);
        boolean tested = false;
        boolean fresh = true;
        for (int i = 0; i < parts; i++) {
            if (fresh) for (int n = draw(8) == 0 ? draw(8) : 0; n > 0; n--) e.append("not ");
            e.append(part(dyes, depth));
            fresh = false;
            if (i == parts - 1) break;
            int sign = draw(8);
            if (sign < 5) {
                e.append(one(" + ", "-", " * ", "/", "+"));
            } else if (sign < 6 && !tested) {
                e.append(one("<", " = "));
                tested = true;
            } else {
                e.append(one(" and ", " or "));
                tested = false;
                fresh = true;
            }
        }
        return e.toString();
    }

    private static String line(int cells) {
        switch (draw(11)) {
            case 0: return "blue " + draw(cells) + " " + draw(100) + ";";
            case 1: case 2: return "girl " + draw(10) + " " + draw(cells) + ";";
            case 3: case 4: return "old " + draw(10) + " " + draw(cells) + ";";
            case 5: return "peg " + draw(cells) + (draw(2) == 0 ? " " + draw(cells) : "") + ";";
            case 6: return "knobs " + draw(100) + ";";
            case 7: return "rinse " + draw(draw(2) == 0 ? 3 : 21) + ";";
            case 8: return "bound " + (1 + draw(draw(2) == 0 ? 20 : 99)) + ";";
            case 9: return "dyes " + expr(true, draw(7)) + ";";
            default: return "fades " + expr(false, draw(7)) + ";";
        }
    }

    private static String text() {
        StringBuilder t = new StringBuilder();
        int wide = 1 + draw(6);
        int high = 1 + draw(5);
        if (draw(4) == 0) {
            wide = 3;
            high = 3;
        } else {
            t.append("sky ").append(wide).append(' ').append(high).append(";");
        }
        for (int lines = draw(14); lines > 0; lines--) {
            String line = line(wide * high);
            if (t.length() + line.length() < 690) t.append(line).append(one("", "", " ", "\n"));
        }
        return t.toString();
    }

    private static String spoilt(String text) {
        StringBuilder t = new StringBuilder(text);
        for (int times = 1 + draw(2); times > 0; times--) {
            int at = draw(t.length() + 1);
            String put = one(" ", ";", "(", ")", "not ", "12345", "7", " 3 ", "x", "sky 2 2;", " and ", "<", "=", "&",
                "A", "\t", "blue", "old 1 1;", "girl 0 0;", "knobs 5;", "\u00e9", "100", " skill ", "((((", "not not ");
            if (draw(3) == 0 && at < t.length()) {
                t.delete(at, Math.min(t.length(), at + 1 + draw(3)));
            } else {
                t.insert(at, put);
            }
        }
        if (t.length() > 700) t.setLength(700);
        return t.toString();
    }

    private static void feed(BlueBag x, Model m, String text) {
        for (int at = 0; at < text.length(); at += 20) {
            int[] five = new int[5];
            for (int i = 0; i < 20; i++) {
                five[i / 4] = five[i / 4] << 8 | (at + i < text.length() ? text.charAt(at + i) & 255 : ' ');
            }
            x.feed(five[0], five[1], five[2], five[3], five[4]);
            m.feed(five);
        }
    }

    /** Only the texts: the fault's kind and its place. */
    private static void texts(Due due) {
        int[] kinds = new int[6];
        for (int i = 0; i < TEXTS; i++) {
            String text = draw(2) == 0 ? text() : spoilt(text());
            BlueBag x = new BlueBag();
            Model m = new Model();
            feed(x, m, text);
            int why = m.coast(text.length());
            kinds[why]++;
            due.is("coast of: " + text, why, () -> x.coast(text.length()));
            due.is("fault of: " + text, m.fault(), x::fault);
        }
        for (int why = 0; why <= 5; why++) due.holds("texts with fault " + why, true, kinds[why] > 20);
    }

    // ---- runs

    /** Mostly a number that a call takes, now and then one beside its range. */
    private static int upTo(int most) {
        int kind = draw(12);
        return kind == 0 ? -1 : kind == 1 ? most + 1 : draw(most + 1);
    }

    private static void run(Due due, int run) {
        BlueBag x = new BlueBag();
        Model m = new Model();
        List<String> made = new ArrayList<>();
        int calls = 40 + draw(60);
        int seenBias = draw(2);
        for (int i = 0; i < calls; i++) {
            if (i == 0 || draw(60) == 0) {
                String text = draw(6) == 0 ? spoilt(text()) : text();
                feed(x, m, text);
                int n = Math.min(text.length(), m.count(13));
                due.is("run " + run + " coast(" + n + ") of: " + text, m.coast(n), () -> x.coast(n));
                made.add(text);
            }
            call(due, x, m, "run " + run + " call " + i + " " + made.get(made.size() - 1) + " ", seenBias);
        }
        all(due, x, m, "run " + run + " " + made.get(made.size() - 1));
    }

    /** What can be asked of the whole state. */
    private static void all(Due due, BlueBag x, Model m, String where) {
        for (int what = -1; what <= 17; what++) {
            int w = what;
            twin(due, where + " count(" + w + ")", () -> m.count(w), () -> x.count(w));
        }
        for (int cell = 0; cell < m.count(0); cell++) {
            for (int what = 0; what <= 3; what++) {
                int c = cell;
                int w = what;
                twin(due, where + " cell(" + c + ", " + w + ")", () -> m.cell(c, w), () -> x.cell(c, w));
            }
        }
        twin(due, where + " fault()", m::fault, x::fault);
    }

    private static void twin(Due due, String call, Due.Call model, Due.Call made) {
        due.like(call, Due.said(model), Due.said(made));
    }

    private static void call(Due due, BlueBag x, Model m, String where, int seenBias) {
        int c = upTo(m.count(0) - 1);
        int d = upTo(m.count(0) - 1);
        int g = upTo(Math.max(0, m.count(2) - 1));
        int h = upTo(Math.max(0, m.count(2) - 1));
        int what = upTo(2);
        int more = upTo(4);
        int n = upTo(40);
        int off = draw(2) == 0 ? draw(10) : upTo(99);
        int by = upTo(20);
        int knobs = upTo(50);
        int bits = draw(20) == 0 ? draw(1 << 30) : few(m.count(0));
        boolean is = draw(2) == 0;
        int any = (int) seed;
        String with = where + "c=" + c + " d=" + d + " g=" + g + " h=" + h + " what=" + what + " more=" + more + " n=" + n
            + " off=" + off + " by=" + by + " knobs=" + knobs + " bits=" + bits + " is=" + is + " any=" + any + " ";
        switch (draw(44)) {
            case 0: twin(due, with + "count(by)", () -> m.count(by), () -> x.count(by)); break;
            case 1: twin(due, with + "cell(c, more)", () -> m.cell(c, more), () -> x.cell(c, more)); break;
            case 2: twin(due, with + "girl(g, more)", () -> m.girl(g, more), () -> x.girl(g, more)); break;
            case 3: case 4: twin(due, with + "days(by)", () -> m.days(by), () -> x.days(by)); break;
            case 5: case 6: twin(due, with + "days(1)", () -> m.days(1), () -> x.days(1)); break;
            case 7: twin(due, with + "rest(g, is)", () -> m.rest(g, is), () -> x.rest(g, is) ? 1 : 0); break;
            case 8: twin(due, with + "go(g, c)", () -> m.go(g, c), () -> x.go(g, c)); break;
            case 9: twin(due, with + "bag(knobs)", () -> m.bag(knobs), () -> x.bag(knobs)); break;
            case 10: twin(due, with + "peg(c, is)", () -> m.peg(c, is), () -> x.peg(c, is)); break;
            case 11: case 12: twin(due, with + "undo()", m::undo, x::undo); break;
            case 13: twin(due, with + "then(c, n)", () -> m.then(c, n), () -> x.then(c, n)); break;
            case 14: case 15: twin(due, with + "sky(n, more)", () -> m.sky(n, more), () -> x.sky(n, more)); break;
            case 16: twin(due, with + "overdone(n)", () -> m.overdone(n), () -> x.overdone(n)); break;
            case 17: twin(due, with + "first(c)", () -> m.first(c), () -> x.first(c)); break;
            case 18: twin(due, with + "spent()", m::spent, x::spent); break;
            case 19: twin(due, with + "streak(what)", () -> m.streak(what), () -> x.streak(what)); break;
            case 20: twin(due, with + "patch(c, off)", () -> m.patch(c, off), () -> x.patch(c, off)); break;
            case 21: twin(due, with + "patches(off)", () -> m.patches(off), () -> x.patches(off)); break;
            case 22: twin(due, with + "way(c, d)", () -> m.way(c, d), () -> x.way(c, d)); break;
            case 23: twin(due, with + "toRest()", m::toRest, x::toRest); break;
            case 24: case 25: twin(due, with + "toStand(g, what)", () -> m.toStand(g, what), () -> x.toStand(g, what)); break;
            case 26: twin(due, with + "toSwish(g, off)", () -> m.toSwish(g, off), () -> x.toSwish(g, off)); break;
            case 27: case 28: twin(due, with + "sent(bits, c)", () -> m.sent(bits, c), () -> x.sent(bits, c)); break;
            case 29: twin(due, with + "sent(bits, -1)", () -> m.sent(bits, -1), () -> x.sent(bits, -1)); break;
            case 30: twin(due, with + "band(n)", () -> m.band(n), () -> x.band(n)); break;
            case 31: twin(due, with + "steady()", m::steady, x::steady); break;
            case 32: twin(due, with + "steps(g, c)", () -> m.steps(g, c), () -> x.steps(g, c)); break;
            case 33: twin(due, with + "nearest(c)", () -> m.nearest(c), () -> x.nearest(c)); break;
            case 34: twin(due, with + "missed(g)", () -> m.missed(g), () -> x.missed(g)); break;
            case 35: case 36: see(due, x, m, with, c, by, off, seenBias); break;
            case 37: twin(due, with + "skilled(what)", () -> m.skilled(what), () -> x.skilled(what)); break;
            case 38: twin(due, with + "look(what)", () -> m.look(what), () -> x.look(what)); break;
            case 39: if (draw(3) == 0) { m.forget(); x.forget(); } break;
            case 40: twin(due, with + "game(g, h, what)", () -> m.game(g, h, what), () -> x.game(g, h, what)); break;
            case 41: twin(due, with + "skies(any, n, what)", () -> m.skies(any, n, what), () -> x.skies(any, n, what)); break;
            case 42: if (draw(2) == 0) { m.image(); x.image(); } break;
            default: twin(due, with + "restore()", m::restore, () -> x.restore() ? 1 : 0); break;
        }
    }

    /** What is seen is mostly what will be, so that some skills are left that fit. */
    private static void see(Due due, BlueBag x, Model m, String with, int c, int by, int off, int bias) {
        boolean likely = bias == 1 && c >= 0 && c < m.count(0) && by >= 0;
        int blue = likely ? m.then(c, by) : off;
        twin(due, with + "see(c, by, " + blue + ")", () -> m.see(c, by, blue), () -> x.see(c, by, blue));
        for (int what = 0; what <= 2; what++) {
            int w = what;
            twin(due, with + "skilled(" + w + ") behind see", () -> m.skilled(w), () -> x.skilled(w));
        }
    }

    private static int few(int cells) {
        int bits = 0;
        for (int i = draw(8); i > 0; i--) bits |= 1 << draw(cells);
        return bits;
    }

    public static void main(String[] args) {
        Due due = new Due("ModelTest");
        texts(due);
        for (int run = 0; run < RUNS; run++) run(due, run);
        due.end();
    }
}
