import java.util.ArrayList;
import java.util.Arrays;
import java.util.HashSet;
import java.util.List;
import java.util.NoSuchElementException;
import java.util.Set;

/**
 * The document once more, written apart from the class and in another way (token lists, trees, copies of everything),
 * for ModelTest to hold the class against.
 */
final class Model {
    // ---- expressions as trees

    interface Tree {
        int worth(World w, int cell, int skill, int left);
    }

    static final class Token {
        String text;
        int at;

        boolean isWord() {
            return !text.isEmpty() && text.charAt(0) >= 'a' && text.charAt(0) <= 'z';
        }

        boolean isNumber() {
            return !text.isEmpty() && Character.isDigit(text.charAt(0));
        }

        boolean isLong() {
            return isNumber() && text.length() > 4;
        }

        int number() {
            return Integer.parseInt(text);
        }
    }

    static final class Fault extends RuntimeException {
        private static final long serialVersionUID = 1L;
        final int why;
        final int at;

        Fault(int why, Token t) {
            this.why = why;
            this.at = t.at;
        }
    }

    static final class Facts {
        int wide = 3, high = 3, rinse = 2, bound = 60;
        List<Boolean> old = new ArrayList<>();
        Tree dyes, fades;
    }

    static final class World implements Cloneable {
        Facts facts = new Facts();
        int[] blue = new int[9];
        List<Integer> spot = new ArrayList<>();
        List<Integer> skill = new ArrayList<>();
        Set<Integer> pegs = new HashSet<>();
        Set<Integer> resting = new HashSet<>();
        int knobs = 20, martins, day;
        Set<Integer> overdone = new HashSet<>();

        World copy() {
            World w = new World();
            w.facts = facts;
            w.blue = blue.clone();
            w.spot = new ArrayList<>(spot);
            w.skill = new ArrayList<>(skill);
            w.pegs = new HashSet<>(pegs);
            w.resting = new HashSet<>(resting);
            w.knobs = knobs;
            w.martins = martins;
            w.day = day;
            w.overdone = new HashSet<>(overdone);
            return w;
        }

        int cells() {
            return facts.wide * facts.high;
        }

        List<Integer> beside(int c) {
            List<Integer> all = new ArrayList<>();
            int x = c % facts.wide, y = c / facts.wide;
            for (int d = 0; d < cells(); d++) {
                int dx = Math.abs(d % facts.wide - x), dy = Math.abs(d / facts.wide - y);
                if (dx + dy == 1) all.add(d);
            }
            return all;
        }

        int dye(int g, int left) {
            if (facts.dyes == null) return skill.get(g) * 2 + 3;
            int d = facts.dyes.worth(this, spot.get(g), skill.get(g), left);
            return d < 0 ? 0 : d > 30 ? 30 : d;
        }

        void more(int c, int n) {
            if (pegs.contains(c)) blue[c] = 0;
            else blue[c] = Math.min(99, blue[c] + n);
        }

        void swish(int g, int left) {
            int d = dye(g, left), c = spot.get(g);
            more(c, d);
            if (!facts.old.get(g)) {
                for (int b : beside(c)) more(b, d / 2);
            } else {
                int drop = d;
                for (int b = c + facts.wide; b < cells(); b += facts.wide) {
                    drop = drop / 2;
                    more(b, drop);
                }
            }
        }

        World next() {
            World w = copy();
            for (int g = 0; g < w.spot.size(); g++) {
                if (w.resting.contains(g) || w.knobs == 0) continue;
                w.knobs = w.knobs - 1;
                w.swish(g, w.knobs);
            }
            w.overdone.clear();
            for (int c = 0; c < w.cells(); c++) if (w.blue[c] > w.facts.bound) w.overdone.add(c);
            w.martins = Math.min(9999, w.martins + w.overdone.size());
            for (int c = 0; c < w.cells(); c++) w.blue[c] = Math.max(0, w.blue[c] - w.facts.rinse);
            int[] after = new int[w.cells()];
            for (int c = 0; c < w.cells(); c++) {
                int less = w.facts.fades == null ? w.blue[c] / 5 : w.facts.fades.worth(w, c, 0, 0);
                after[c] = w.blue[c] - Math.max(0, Math.min(w.blue[c], less));
            }
            w.blue = after;
            w.day = w.day + 1;
            return w;
        }

        World behind(int days) {
            World w = copy();
            for (int i = 0; i < days; i++) w = w.next();
            return w;
        }

        int all() {
            return Arrays.stream(blue).sum();
        }

        List<Integer> free() {
            List<Integer> all = new ArrayList<>();
            for (int c = 0; c < cells(); c++) if (!pegs.contains(c)) all.add(c);
            return all;
        }

        int uneven() {
            if (free().isEmpty()) return -1;
            return free().stream().mapToInt(c -> blue[c]).max().getAsInt()
                - free().stream().mapToInt(c -> blue[c]).min().getAsInt();
        }

        int deepest() {
            return free().stream().max((a, b) -> blue[a] != blue[b] ? blue[a] - blue[b] : b - a).orElse(-1);
        }

        int palest() {
            return free().stream().min((a, b) -> blue[a] != blue[b] ? blue[a] - blue[b] : a - b).orElse(-1);
        }

        int far(int g, int c) {
            return Math.abs(spot.get(g) % facts.wide - c % facts.wide)
                + Math.abs(spot.get(g) / facts.wide - c / facts.wide);
        }
    }

    // ---- reading a text

    private List<Token> tokens;
    private int next;

    private static List<Token> split(String text) {
        List<Token> all = new ArrayList<>();
        int i = 0;
        while (i < text.length()) {
            char ch = text.charAt(i);
            if (ch == ' ' || ch == '\n') {
                i++;
                continue;
            }
            int j = i + 1;
            if (ch >= 'a' && ch <= 'z') while (j < text.length() && text.charAt(j) >= 'a' && text.charAt(j) <= 'z') j++;
            if (ch >= '0' && ch <= '9') while (j < text.length() && text.charAt(j) >= '0' && text.charAt(j) <= '9') j++;
            Token t = new Token();
            t.text = text.substring(i, j);
            t.at = i;
            all.add(t);
            i = j;
        }
        Token end = new Token();
        end.text = "";
        end.at = text.length();
        all.add(end);
        return all;
    }

    private Token now() {
        return tokens.get(next);
    }

    private boolean at(String text) {
        return now().text.equals(text);
    }

    private void sign(String text) {
        if (!at(text)) throw new Fault(1, now());
        next++;
    }

    private int number(int least, int most) {
        if (!now().isNumber()) throw new Fault(1, now());
        if (now().isLong() || now().number() < least || now().number() > most) throw new Fault(2, now());
        return tokens.get(next++).number();
    }

    private int cell(World w, Set<Integer> taken) {
        if (!now().isNumber()) throw new Fault(1, now());
        if (now().isLong()) throw new Fault(2, now());
        if (now().number() >= w.cells()) throw new Fault(3, now());
        if (taken.contains(now().number())) throw new Fault(4, now());
        return tokens.get(next++).number();
    }

    private World text(String text) {
        tokens = split(text);
        next = 0;
        World w = new World();
        Set<String> once = new HashSet<>();
        Set<Integer> blues = new HashSet<>();
        boolean cell = false;
        while (next < tokens.size() - 1) {
            Token head = now();
            String word = head.text;
            if (word.equals("sky") && cell) throw new Fault(4, head);
            if (Arrays.asList("sky", "knobs", "rinse", "bound", "dyes", "fades").contains(word) && !once.add(word)) {
                throw new Fault(5, head);
            }
            if ((word.equals("girl") || word.equals("old")) && w.spot.size() == 6) throw new Fault(2, head);
            next++;
            switch (word) {
                case "sky" -> {
                    w.facts.wide = number(1, 6);
                    w.facts.high = number(1, 5);
                    w.blue = new int[w.cells()];
                }
                case "blue" -> {
                    int c = cell(w, blues);
                    cell = true;
                    blues.add(c);
                    w.blue[c] = number(0, 99);
                }
                case "girl", "old" -> {
                    int s = number(0, 9);
                    w.spot.add(cell(w, Set.of()));
                    cell = true;
                    w.skill.add(s);
                    w.facts.old.add(word.equals("old"));
                }
                case "peg" -> {
                    w.pegs.add(cell(w, w.pegs));
                    cell = true;
                    while (now().isNumber()) w.pegs.add(cell(w, w.pegs));
                }
                case "knobs" -> w.knobs = number(0, 99);
                case "rinse" -> w.facts.rinse = number(0, 20);
                case "bound" -> w.facts.bound = number(1, 99);
                case "dyes" -> {
                    int from = next;
                    walk(true);
                    w.facts.dyes = tree(from, next);
                }
                case "fades" -> {
                    int from = next;
                    walk(false);
                    w.facts.fades = tree(from, next);
                }
                default -> throw new Fault(1, head);
            }
            sign(";");
        }
        for (int c : w.pegs) w.blue[c] = 0;
        return w;
    }

    /** Goes along an expression with a stack of "was there a test already", and stops at the first token behind it. */
    private void walk(boolean dyes) {
        List<String> values = dyes ? List.of("blue", "beside", "row", "day", "skill", "left")
            : List.of("blue", "beside", "row", "day");
        List<Boolean> tested = new ArrayList<>();
        tested.add(false);
        boolean part = true, fresh = true, opened = true;
        int nots = 0;
        while (true) {
            Token t = now();
            int last = tested.size() - 1;
            if (part) {
                boolean starts = t.isNumber() || t.isWord() || t.text.equals("(");
                if (opened && tested.size() > 6 && starts) throw new Fault(2, t);
                if (t.isNumber()) {
                    if (t.isLong()) throw new Fault(2, t);
                    part = false;
                } else if (t.text.equals("not") && fresh) {
                    nots++;
                    if (nots > 6) throw new Fault(2, t);
                    opened = false;
                    next++;
                    continue;
                } else if (t.isWord()) {
                    if (!values.contains(t.text)) throw new Fault(3, t);
                    part = false;
                } else if (t.text.equals("(")) {
                    tested.add(false);
                    fresh = true;
                    opened = true;
                    nots = 0;
                    next++;
                    continue;
                } else {
                    throw new Fault(1, t);
                }
                nots = 0;
                fresh = false;
                opened = false;
                next++;
                continue;
            }
            switch (t.text) {
                case "+", "-", "*", "/" -> part = true;
                case "<", "=" -> {
                    if (tested.get(last)) throw new Fault(1, t);
                    tested.set(last, true);
                    part = true;
                }
                case "and", "or" -> {
                    tested.set(last, false);
                    part = true;
                    fresh = true;
                }
                case ")" -> {
                    if (last == 0) throw new Fault(1, t);
                    tested.remove(last);
                }
                case ";" -> {
                    if (last == 0) return;
                    throw new Fault(1, t);
                }
                default -> throw new Fault(1, t);
            }
            next++;
        }
    }

    /** The tree of the tokens from one place up to another, cut at the weakest sign that stands last. */
    private Tree tree(int from, int to) {
        List<Token> ts = tokens.subList(from, to);
        for (List<String> weak : List.of(List.of("or"), List.of("and"))) {
            int cut = lastOf(ts, weak);
            if (cut >= 0) return joined(ts.get(cut).text, tree(from, from + cut), tree(from + cut + 1, to));
        }
        if (ts.get(0).text.equals("not")) {
            Tree of = tree(from + 1, to);
            return (w, c, s, l) -> of.worth(w, c, s, l) == 0 ? 1 : 0;
        }
        for (List<String> weak : List.of(List.of("<", "="), List.of("+", "-"), List.of("*", "/"))) {
            int cut = lastOf(ts, weak);
            if (cut >= 0) return joined(ts.get(cut).text, tree(from, from + cut), tree(from + cut + 1, to));
        }
        String t = ts.get(0).text;
        if (t.equals("(")) return tree(from + 1, to - 1);
        if (ts.get(0).isNumber()) {
            int n = ts.get(0).number();
            return (w, c, s, l) -> n;
        }
        return switch (t) {
            case "blue" -> (w, c, s, l) -> w.blue[c];
            case "beside" -> (w, c, s, l) -> w.beside(c).stream().mapToInt(b -> w.blue[b]).sum();
            case "row" -> (w, c, s, l) -> c / w.facts.wide;
            case "day" -> (w, c, s, l) -> w.day;
            case "skill" -> (w, c, s, l) -> s;
            default -> (w, c, s, l) -> l;
        };
    }

    private static int lastOf(List<Token> ts, List<String> weak) {
        int depth = 0;
        for (int i = ts.size() - 1; i >= 0; i--) {
            String t = ts.get(i).text;
            if (t.equals(")")) depth++;
            if (t.equals("(")) depth--;
            if (depth == 0 && weak.contains(t)) return i;
        }
        return -1;
    }

    private static Tree joined(String sign, Tree a, Tree b) {
        return (w, c, s, l) -> {
            int x = a.worth(w, c, s, l), y = b.worth(w, c, s, l);
            return switch (sign) {
                case "or" -> x != 0 || y != 0 ? 1 : 0;
                case "and" -> x != 0 && y != 0 ? 1 : 0;
                case "<" -> x < y ? 1 : 0;
                case "=" -> x == y ? 1 : 0;
                case "+" -> x + y;
                case "-" -> x - y;
                case "*" -> x * y;
                default -> y == 0 ? 0 : x / y;
            };
        };
    }

    // ---- the object

    private static final class All {
        World world = new World();
        List<World> acts = new ArrayList<>();
        List<int[]> seen = new ArrayList<>();
        int[] status = new int[3];

        All copy() {
            All a = new All();
            a.world = world.copy();
            for (World w : acts) a.acts.add(w.copy());
            for (int[] s : seen) a.seen.add(s.clone());
            a.status = status.clone();
            return a;
        }
    }

    private final StringBuilder tape = new StringBuilder();
    private All all = new All();
    private All image;
    private int place = -1;

    private World w() {
        return all.world;
    }

    private void act() {
        all.acts.add(w().copy());
        if (all.acts.size() > 40) all.acts.remove(0);
    }

    private int refused(int row) {
        all.status[row]++;
        return -1;
    }

    private void aCell(int c) {
        if (c < 0 || c >= w().cells()) throw new NoSuchElementException();
    }

    private void aGirl(int g) {
        if (g < 0 || g >= w().spot.size()) throw new NoSuchElementException();
    }

    private static void aWhat(int what, int most) {
        if (what < 0 || what > most) throw new NoSuchElementException();
    }

    private static void from(int n, int least, int most) {
        if (n < least || n > most) throw new IllegalArgumentException();
    }

    private static int bits(Iterable<Integer> of) {
        int bits = 0;
        for (int i : of) bits |= 1 << i;
        return bits;
    }

    int feed(int... five) {
        if (tape.length() + 20 > 700) return -1;
        for (int n : five) for (int s = 24; s >= 0; s -= 8) tape.append((char) (n >>> s & 255));
        return tape.length();
    }

    int coast(int n) {
        if (n < 0 || n > tape.length()) throw new IllegalArgumentException();
        String text = tape.substring(0, n);
        tape.setLength(0);
        try {
            World told = text(text);
            int[] status = all.status;
            all = new All();
            all.world = told;
            all.status = status;
            image = null;
            place = -1;
            return 0;
        } catch (Fault f) {
            refused(0);
            place = f.at;
            return f.why;
        }
    }

    int fault() {
        return place;
    }

    int count(int what) {
        aWhat(what, 16);
        Facts f = w().facts;
        int[] is = {w().cells(), f.wide, w().spot.size(), w().day, w().knobs, f.rinse, f.bound, w().martins,
            bits(w().pegs), bits(w().resting), w().all(), all.acts.size(), all.seen.size(), tape.length(),
            all.status[0], all.status[1], all.status[2]};
        return is[what];
    }

    int cell(int c, int what) {
        aCell(c);
        aWhat(what, 3);
        if (what == 0) return w().blue[c];
        if (what == 1) return bits(w().beside(c));
        if (what == 3) return patch(c, 0);
        int at = 0;
        for (int g = 0; g < w().spot.size(); g++) if (w().spot.get(g) == c) at |= 1 << g;
        return at;
    }

    int girl(int g, int what) {
        aGirl(g);
        aWhat(what, 3);
        if (what == 0) return w().skill.get(g);
        if (what == 1) return w().spot.get(g);
        if (what == 2) return w().facts.old.get(g) ? 1 : 0;
        return w().dye(g, Math.max(0, w().knobs - 1));
    }

    int days(int many) {
        if (many < 1 || many > 20 || w().day + many > 999) return refused(1);
        act();
        all.world = w().behind(many);
        return w().day;
    }

    int rest(int g, boolean is) {
        aGirl(g);
        if (w().resting.contains(g) == is) {
            refused(1);
            return 0;
        }
        act();
        if (is) w().resting.add(g);
        else w().resting.remove(g);
        return 1;
    }

    int go(int g, int c) {
        aGirl(g);
        aCell(c);
        if (w().spot.get(g) == c) return refused(1);
        act();
        return w().spot.set(g, c);
    }

    int bag(int more) {
        if (more < 1 || more > 50) return refused(1);
        act();
        w().knobs = Math.min(99, w().knobs + more);
        return w().knobs;
    }

    int peg(int c, boolean is) {
        aCell(c);
        if (w().pegs.contains(c) == is) return refused(1);
        act();
        int was = w().blue[c];
        w().blue[c] = 0;
        if (is) w().pegs.add(c);
        else w().pegs.remove(c);
        return was;
    }

    int undo() {
        if (all.acts.isEmpty()) return -1;
        all.world = all.acts.remove(all.acts.size() - 1);
        return all.acts.size();
    }

    int then(int c, int days) {
        aCell(c);
        from(days, 0, 40);
        return w().behind(days).blue[c];
    }

    int sky(int days, int what) {
        aWhat(what, 4);
        from(days, 0, 40);
        World then = w().behind(days);
        int[] is = {then.knobs, then.martins, then.uneven(), then.deepest(), then.palest()};
        return is[what];
    }

    int overdone(int k) {
        from(k, 1, 40);
        return bits(w().behind(k).overdone);
    }

    int first(int c) {
        aCell(c);
        World then = w();
        for (int k = 1; k <= 40; k++) {
            then = then.next();
            if (then.overdone.contains(c)) return k;
        }
        return -1;
    }

    int spent() {
        World then = w();
        for (int k = 0; k <= 40; k++) {
            if (then.knobs == 0) return k;
            then = then.next();
        }
        return -1;
    }

    int streak(int what) {
        aWhat(what, 1);
        int most = 0, start = -1;
        for (int y = 0; y < w().facts.high; y++) {
            for (int a = 0; a < w().facts.wide; a++) {
                for (int b = a; b < w().facts.wide; b++) {
                    Set<Integer> unlike = new HashSet<>();
                    for (int x = a; x <= b; x++) unlike.add(w().blue[y * w().facts.wide + x]);
                    if (unlike.size() == 1 && b - a + 1 > most) {
                        most = b - a + 1;
                        start = y * w().facts.wide + a;
                    }
                }
            }
        }
        return what == 0 ? most : start;
    }

    int patch(int c, int off) {
        aCell(c);
        from(off, 0, 99);
        Set<Integer> in = new HashSet<>();
        List<Integer> open = new ArrayList<>(List.of(c));
        while (!open.isEmpty()) {
            int a = open.remove(open.size() - 1);
            if (!in.add(a)) continue;
            for (int b : w().beside(a)) if (Math.abs(w().blue[a] - w().blue[b]) <= off) open.add(b);
        }
        return bits(in);
    }

    int patches(int off) {
        from(off, 0, 99);
        Set<Integer> unlike = new HashSet<>();
        for (int c = 0; c < w().cells(); c++) unlike.add(patch(c, off));
        return unlike.size();
    }

    int way(int c, int other) {
        aCell(c);
        aCell(other);
        if (w().pegs.contains(c) || w().pegs.contains(other)) return -1;
        int[] far = new int[w().cells()];
        Arrays.fill(far, 1000);
        far[c] = 0;
        for (int round = 0; round < 30; round++) {
            for (int a : w().free()) {
                for (int b : w().beside(a)) if (!w().pegs.contains(b)) far[b] = Math.min(far[b], far[a] + 1);
            }
        }
        return far[other] == 1000 ? -1 : far[other];
    }

    int toRest() {
        int best = -1, least = w().next().uneven();
        for (int g = 0; g < w().spot.size(); g++) {
            if (w().resting.contains(g)) continue;
            World as = w().copy();
            as.resting.add(g);
            if (as.next().uneven() < least) {
                least = as.next().uneven();
                best = g;
            }
        }
        return best;
    }

    int toStand(int g, int what) {
        aGirl(g);
        aWhat(what, 1);
        int best = -1, least = 1000;
        for (int c = 0; c < w().cells(); c++) {
            World as = w().copy();
            as.spot.set(g, c);
            if (as.next().uneven() < least) {
                least = as.next().uneven();
                best = c;
            }
        }
        return what == 0 ? best : least;
    }

    int toSwish(int g, int blue) {
        aGirl(g);
        from(blue, 0, 99);
        World as = w().copy();
        for (int n = 0; n <= 20; n++) {
            if (as.blue[as.spot.get(g)] >= blue) return n;
            as.swish(g, as.knobs);
        }
        return -1;
    }

    int sent(int cells, int c) {
        if (cells < 0 || cells >= 1 << w().cells() || Integer.bitCount(cells) > 6) throw new IllegalArgumentException();
        if (c != -1 && (c < 0 || c >= 30 || (cells >> c & 1) == 0)) throw new NoSuchElementException();
        List<Integer> goals = new ArrayList<>();
        for (int i = 0; i < 30; i++) if ((cells >> i & 1) != 0) goals.add(i);
        int girls = w().spot.size();
        if (goals.size() > girls) return -2;
        int rows = 1;
        for (int i = 0; i < goals.size(); i++) rows *= girls;
        int least = 1000;
        List<Integer> best = null;
        for (int r = 0; r < rows; r++) {
            List<Integer> row = new ArrayList<>();
            int rest = r;
            for (int i = 0; i < goals.size(); i++) {
                row.add(0, rest % girls);
                rest /= girls;
            }
            if (new HashSet<>(row).size() < row.size()) continue;
            int far = 0;
            for (int i = 0; i < row.size(); i++) far += w().far(row.get(i), goals.get(i));
            if (far < least) {
                least = far;
                best = row;
            }
        }
        return c == -1 ? least : best.get(goals.indexOf(c));
    }

    int band(int days) {
        from(days, 0, 40);
        World then = w().behind(days);
        int best = -1, most = -1;
        for (int y = 0; y < w().facts.high; y++) {
            int sum = 0;
            for (int x = 0; x < w().facts.wide; x++) sum += then.blue[y * w().facts.wide + x];
            if (sum > most) {
                most = sum;
                best = y;
            }
        }
        return best;
    }

    int steady() {
        for (int d = 1; d <= 40; d++) {
            if (Arrays.equals(w().behind(d).blue, w().behind(d - 1).blue)) return d;
        }
        return -1;
    }

    int steps(int g, int c) {
        aGirl(g);
        aCell(c);
        return w().far(g, c);
    }

    int nearest(int c) {
        aCell(c);
        int best = -1;
        for (int g = w().spot.size() - 1; g >= 0; g--) if (best < 0 || w().far(g, c) <= w().far(best, c)) best = g;
        return best;
    }

    int missed(int g) {
        aGirl(g);
        World as = w().copy(), not = w().copy();
        as.resting.add(g);
        not.resting.remove(g);
        return not.next().all() - as.next().all();
    }

    int see(int c, int days, int blue) {
        aCell(c);
        if (all.seen.size() == 8 || days < 0 || days > 20 || blue < 0 || blue > 99) return refused(2);
        all.seen.add(new int[] {c, days, blue});
        return all.seen.size();
    }

    private boolean fits(World as) {
        for (int[] s : all.seen) if (as.behind(s[1]).blue[s[0]] != s[2]) return false;
        return true;
    }

    private List<int[]> skills() {
        List<int[]> fit = new ArrayList<>();
        for (int g = 0; g < w().spot.size(); g++) {
            for (int s = 0; s <= 9; s++) {
                if (w().skill.get(g) == s) continue;
                World as = w().copy();
                as.skill.set(g, s);
                if (fits(as)) fit.add(new int[] {g, s});
            }
        }
        return fit;
    }

    int skilled(int what) {
        aWhat(what, 2);
        if (what == 2) return fits(w()) ? 1 : 0;
        List<int[]> fit = skills();
        if (what == 0) return fit.size();
        return fit.isEmpty() ? -1 : 10 * fit.get(0)[0] + fit.get(0)[1];
    }

    int look(int what) {
        aWhat(what, 1);
        List<int[]> fit = skills();
        if (fit.isEmpty()) return what == 0 ? -1 : 0;
        int best = -1, most = 0;
        List<World> then = new ArrayList<>();
        for (int[] f : fit) {
            World as = w().copy();
            as.skill.set(f[0], f[1]);
            then.add(as.behind(5));
        }
        for (int c = 0; c < w().cells(); c++) {
            Set<Integer> unlike = new HashSet<>();
            for (World t : then) unlike.add(t.blue[c]);
            if (unlike.size() > most) {
                most = unlike.size();
                best = c;
            }
        }
        return what == 0 ? best : most;
    }

    void forget() {
        all.seen.clear();
    }

    private int[] gains(int g, int h, int a, int b) {
        World as = w().copy();
        as.resting.remove(g);
        as.resting.remove(h);
        if (a == 0) as.resting.add(g);
        if (b == 0) as.resting.add(h);
        World then = as.next();
        int lost = 10 * then.overdone.size();
        return new int[] {then.blue[then.spot.get(g)] - lost - (a == 1 ? 2 : 0),
            then.blue[then.spot.get(h)] - lost - (b == 1 ? 2 : 0)};
    }

    int game(int g, int h, int what) {
        aGirl(g);
        aGirl(h);
        aWhat(what, 1);
        if (g == h) throw new IllegalArgumentException();
        List<Integer> rest = new ArrayList<>();
        for (int i = 0; i < 4; i++) {
            int a = i / 2, b = i % 2;
            if (gains(g, h, 1 - a, b)[0] > gains(g, h, a, b)[0]) continue;
            if (gains(g, h, a, 1 - b)[1] > gains(g, h, a, b)[1]) continue;
            rest.add(10 * a + b);
        }
        if (what == 0) return rest.size();
        return rest.isEmpty() ? -1 : rest.get(0);
    }

    int skies(int seed, int n, int what) {
        aWhat(what, 2);
        from(n, 0, 40);
        World then = w().copy();
        int[] s = {seed};
        for (int d = 0; d < n; d++) {
            int kind = draw(s, 5);
            if (kind == 0) then.more(draw(s, then.cells()), 20);
            if (kind == 1 && !then.spot.isEmpty()) {
                int g = draw(s, then.spot.size());
                then.spot.set(g, draw(s, then.cells()));
            }
            if (kind == 2) then.knobs = Math.min(99, then.knobs + 5);
            then = then.next();
        }
        return what == 0 ? then.martins - w().martins : what == 1 ? then.all() : then.knobs;
    }

    private static int draw(int[] seed, int n) {
        seed[0] = (int) (seed[0] * 1103515245L + 12345L);
        return (int) ((seed[0] & 0xffffffffL) / 65536 % 32768 % n);
    }

    void image() {
        image = all.copy();
    }

    int restore() {
        if (image == null) return 0;
        all = image.copy();
        return 1;
    }
}
