import java.util.ArrayList;
import java.util.List;

/**
 * Every call of the face with the least, the greatest and all numbers beside the document's limits, at skies that are
 * empty, full, used up: what it answers or throws is held against the model, and what throws changes nothing.
 */
public final class ExtremesTest {
    private static final Due DUE = new Due("ExtremesTest");
    private static final int MIN = Integer.MIN_VALUE;
    private static final int MAX = Integer.MAX_VALUE;
    private static final int[] MANY = {MIN, MIN + 1, -1000000, -65, -64, -33, -32, -31, -30, -3, -2, -1, 0, 1, 2, 3, 4, 5, 6, 7,
        8, 9, 10, 11, 15, 16, 17, 18, 19, 20, 21, 22, 29, 30, 31, 32, 33, 39, 40, 41, 42, 49, 50, 51, 59, 60, 61, 63, 64, 65, 98,
        99, 100, 101, 127, 128, 255, 256, 511, 512, 699, 700, 701, 999, 1000, 1 << 16, (1 << 30) - 1, 1 << 30, MAX - 1, MAX};
    private static final int[] SOME = {MIN, -33, -2, -1, 0, 1, 2, 3, 5, 6, 8, 9, 20, 21, 29, 30, 32, 40, 41, 63, 99, 100, 127,
        (1 << 30) - 1, 1 << 30, MAX};
    private static final int[] FEW = {MIN, -1, 0, 1, 2, 5, 6, 20, 21, 30, 40, 41, 99, 100, MAX};
    private static final int SKIES = 6;

    interface Made {
        long of(BlueBag x, int a, int b, int c);
    }

    interface Modelled {
        long of(Model m, int a, int b, int c);
    }

    private static final class Asked {
        final String name;
        final int numbers;
        final boolean changes;
        final Made made;
        final Modelled modelled;

        Asked(String name, int numbers, boolean changes, Made made, Modelled modelled) {
            this.name = name;
            this.numbers = numbers;
            this.changes = changes;
            this.made = made;
            this.modelled = modelled;
        }
    }

    private static final List<Asked> ALL = new ArrayList<>();

    private static void asks(String name, int numbers, Made made, Modelled modelled) {
        ALL.add(new Asked(name, numbers, false, made, modelled));
    }

    private static void acts(String name, int numbers, Made made, Modelled modelled) {
        ALL.add(new Asked(name, numbers, true, made, modelled));
    }

    private static void face() {
        acts("coast", 1, (x, a, b, c) -> x.coast(a), (m, a, b, c) -> m.coast(a));
        asks("fault", 0, (x, a, b, c) -> x.fault(), (m, a, b, c) -> m.fault());
        asks("count", 1, (x, a, b, c) -> x.count(a), (m, a, b, c) -> m.count(a));
        asks("cell", 2, (x, a, b, c) -> x.cell(a, b), (m, a, b, c) -> m.cell(a, b));
        asks("girl", 2, (x, a, b, c) -> x.girl(a, b), (m, a, b, c) -> m.girl(a, b));
        acts("days", 1, (x, a, b, c) -> x.days(a), (m, a, b, c) -> m.days(a));
        acts("rest", 1, (x, a, b, c) -> x.rest(a, true) ? 1 : 0, (m, a, b, c) -> m.rest(a, true));
        acts("rest not", 1, (x, a, b, c) -> x.rest(a, false) ? 1 : 0, (m, a, b, c) -> m.rest(a, false));
        acts("go", 2, (x, a, b, c) -> x.go(a, b), (m, a, b, c) -> m.go(a, b));
        acts("bag", 1, (x, a, b, c) -> x.bag(a), (m, a, b, c) -> m.bag(a));
        acts("peg", 1, (x, a, b, c) -> x.peg(a, true), (m, a, b, c) -> m.peg(a, true));
        acts("peg not", 1, (x, a, b, c) -> x.peg(a, false), (m, a, b, c) -> m.peg(a, false));
        acts("undo", 0, (x, a, b, c) -> x.undo(), (m, a, b, c) -> m.undo());
        asks("then", 2, (x, a, b, c) -> x.then(a, b), (m, a, b, c) -> m.then(a, b));
        asks("sky", 2, (x, a, b, c) -> x.sky(a, b), (m, a, b, c) -> m.sky(a, b));
        asks("overdone", 1, (x, a, b, c) -> x.overdone(a), (m, a, b, c) -> m.overdone(a));
        asks("first", 1, (x, a, b, c) -> x.first(a), (m, a, b, c) -> m.first(a));
        asks("spent", 0, (x, a, b, c) -> x.spent(), (m, a, b, c) -> m.spent());
        asks("streak", 1, (x, a, b, c) -> x.streak(a), (m, a, b, c) -> m.streak(a));
        asks("patch", 2, (x, a, b, c) -> x.patch(a, b), (m, a, b, c) -> m.patch(a, b));
        asks("patches", 1, (x, a, b, c) -> x.patches(a), (m, a, b, c) -> m.patches(a));
        asks("way", 2, (x, a, b, c) -> x.way(a, b), (m, a, b, c) -> m.way(a, b));
        asks("toRest", 0, (x, a, b, c) -> x.toRest(), (m, a, b, c) -> m.toRest());
        asks("toStand", 2, (x, a, b, c) -> x.toStand(a, b), (m, a, b, c) -> m.toStand(a, b));
        asks("toSwish", 2, (x, a, b, c) -> x.toSwish(a, b), (m, a, b, c) -> m.toSwish(a, b));
        asks("sent", 2, (x, a, b, c) -> x.sent(a, b), (m, a, b, c) -> m.sent(a, b));
        asks("band", 1, (x, a, b, c) -> x.band(a), (m, a, b, c) -> m.band(a));
        asks("steady", 0, (x, a, b, c) -> x.steady(), (m, a, b, c) -> m.steady());
        asks("steps", 2, (x, a, b, c) -> x.steps(a, b), (m, a, b, c) -> m.steps(a, b));
        asks("nearest", 1, (x, a, b, c) -> x.nearest(a), (m, a, b, c) -> m.nearest(a));
        asks("missed", 1, (x, a, b, c) -> x.missed(a), (m, a, b, c) -> m.missed(a));
        acts("see", 3, (x, a, b, c) -> x.see(a, b, c), (m, a, b, c) -> m.see(a, b, c));
        asks("skilled", 1, (x, a, b, c) -> x.skilled(a), (m, a, b, c) -> m.skilled(a));
        asks("look", 1, (x, a, b, c) -> x.look(a), (m, a, b, c) -> m.look(a));
        asks("game", 3, (x, a, b, c) -> x.game(a, b, c), (m, a, b, c) -> m.game(a, b, c));
        asks("skies", 3, (x, a, b, c) -> x.skies(a, b, c), (m, a, b, c) -> m.skies(a, b, c));
        acts("restore", 0, (x, a, b, c) -> x.restore() ? 1 : 0, (m, a, b, c) -> m.restore());
    }

    // ---- skies

    /** The class and the model, each told the same and led to the same sky. */
    private static final class Pair {
        final BlueBag made = new BlueBag();
        final Model modelled = new Model();

        void text(String text) {
            feed(text);
            made.coast(text.length());
            modelled.coast(text.length());
        }

        void feed(String text) {
            Due.feed(made, text);
            for (int at = 0; at < text.length(); at += 20) {
                int[] five = new int[5];
                for (int i = 0; i < 20; i++) {
                    five[i / 4] = five[i / 4] << 8 | (at + i < text.length() ? text.charAt(at + i) & 255 : ' ');
                }
                modelled.feed(five);
            }
        }

        void days(int many) {
            made.days(many);
            modelled.days(many);
        }

        void rest(int girl) {
            made.rest(girl, true);
            modelled.rest(girl, true);
        }

        void see(int cell, int days, int blue) {
            made.see(cell, days, blue);
            modelled.see(cell, days, blue);
        }

        void image() {
            made.image();
            modelled.image();
        }

        /** Few calls, so that a pair of objects is used for fewer than 512. */
        String counts() {
            StringBuilder all = new StringBuilder();
            for (int what = 0; what <= 16; what++) all.append(made.count(what)).append(' ');
            all.append(made.fault());
            for (int g = 0; g < modelled.count(2); g++) all.append(' ').append(made.girl(g, 1));
            return all.toString();
        }

        String modelCounts() {
            StringBuilder all = new StringBuilder();
            for (int what = 0; what <= 16; what++) all.append(modelled.count(what)).append(' ');
            all.append(modelled.fault());
            for (int g = 0; g < modelled.count(2); g++) all.append(' ').append(modelled.girl(g, 1));
            return all.toString();
        }
    }

    private static Pair sky(int which) {
        Pair pair = new Pair();
        switch (which) {
            case 0 -> { }
            case 1 -> {
                pair.text("sky 6 5;girl 1 0;old 2 5;girl 3 24;old 9 29;girl 5 14;old 0 14;peg 7 22 1;blue 29 99;blue 8 61;"
                    + "knobs 99;bound 9;rinse 1;dyes skill*2+left/9-row;fades blue/4+beside/20;");
                for (int i = 0; i < 8; i++) pair.see(29, i, 99);
                for (int i = 0; i < 40; i++) pair.days(1);
                pair.image();
                pair.feed("knobs 100;");
            }
            case 2 -> pair.text("sky 1 1;peg 0;girl 9 0;old 0 0;");
            case 3 -> {
                pair.text("sky 2 5;girl 9 9;old 9 0;girl 0 1;peg 2 3;blue 9 99;rinse 0;fades day/400;");
                for (int i = 0; i < 49; i++) pair.days(20);
                pair.days(19);
                for (int g = 0; g < 3; g++) pair.rest(g);
                pair.feed("x");
                pair.modelled.coast(1);
                pair.made.coast(1);
            }
            case 4 -> {
                StringBuilder text = new StringBuilder("sky 6 5;bound 1;knobs 99;rinse 0;fades 0;");
                for (int c = 0; c < 30; c++) text.append("blue ").append(c).append(" 99;");
                for (int g = 0; g < 6; g++) text.append(g % 2 == 0 ? "girl 9 " : "old 9 ").append(5 * g).append(';');
                pair.text(text.toString());
                pair.image();
            }
            default -> {
                pair.text("sky 6 1;girl 0 0;old 1 5;girl 9 3;knobs 1;dyes 0-1;fades 9999;");
                pair.see(0, 0, 0);
                pair.rest(1);
            }
        }
        return pair;
    }

    // ---- the sweep

    private static int[] numbers(Asked asked) {
        return asked.numbers <= 1 ? MANY : asked.numbers == 2 ? SOME : FEW;
    }

    private static void sweep(Asked asked, int which) {
        int[] of = numbers(asked);
        int[] none = {0};
        Pair pair = sky(which);
        int used = 0;
        for (int a : asked.numbers > 0 ? of : none) {
            for (int b : asked.numbers > 1 ? of : none) {
                for (int c : asked.numbers > 2 ? of : none) {
                    boolean changed = hold(asked, which, pair, new int[] {a, b, c});
                    used++;
                    if (changed || used % 8 == 0) pair = sky(which);
                }
            }
        }
    }

    /** Whether the call may have changed something. */
    private static boolean hold(Asked asked, int which, Pair pair, int[] n) {
        String call = asked.name + "(" + n[0] + ", " + n[1] + ", " + n[2] + ") of sky " + which;
        String before = pair.counts();
        String want = Due.said(() -> asked.modelled.of(pair.modelled, n[0], n[1], n[2]));
        DUE.like(call, want, Due.said(() -> asked.made.of(pair.made, n[0], n[1], n[2])));
        boolean throwsIt = want.startsWith("throws");
        boolean changes = asked.changes && !throwsIt;
        String after = pair.counts();
        DUE.like(call + ": what is so then", changes ? pair.modelCounts() : before, after);
        return changes;
    }

    public static void main(String[] args) {
        face();
        for (int which = 0; which < SKIES; which++) {
            Pair pair = sky(which);
            DUE.like("sky " + which, pair.modelCounts(), pair.counts());
            for (Asked asked : ALL) sweep(asked, which);
        }
        DUE.end();
    }
}
