/** Promises 36 and 37: a game of two girls, skies by a seed. */
public final class GameTest {
    private static final Due DUE = new Due("GameTest");
    private static final String STILL = "rinse 0;fades 0;";

    private static void rest(int many, int first, String text) {
        BlueBag x = Due.told(text);
        DUE.is("P36 game(0, 1, 0) of: " + text, many, () -> x.game(0, 1, 0));
        DUE.is("P36 game(0, 1, 1) of: " + text, first, () -> x.game(0, 1, 1));
        x.rest(0, true);
        x.rest(1, true);
        DUE.is("P36 game(0, 1, 0), whatever they are now, of: " + text, many, () -> x.game(0, 1, 0));
    }

    private static void game() {
        rest(1, 11, "sky 2 1;" + STILL + "girl 5 0;girl 5 1;");
        rest(1, 11, "sky 2 1;" + STILL + "old 0 0;old 0 1;");
        rest(4, 0, "sky 2 1;" + STILL + "dyes 2;old 0 0;old 0 1;");
        rest(1, 0, "sky 2 1;" + STILL + "dyes 1;old 0 0;old 0 1;");
        // 10 less for an overdone cell, whoever did it
        rest(4, 0, "sky 2 1;" + STILL + "dyes 12;bound 11;old 0 0;old 0 1;");
        rest(1, 0, "sky 2 1;" + STILL + "dyes 11;bound 10;old 0 0;old 0 1;");
        // 49 by doing it, 50 by resting
        rest(1, 0, "sky 2 1;" + STILL + "blue 0 50;blue 1 50;dyes 1;old 0 0;old 0 1;");
        // only the first gains
        rest(1, 10, "sky 2 1;" + STILL + "dyes skill;old 3 0;old 1 1;");
        rest(1, 1, "sky 2 1;" + STILL + "dyes skill;old 1 0;old 3 1;");
        // one knob: the second gains only where the first rests
        rest(1, 10, "sky 2 1;" + STILL + "knobs 1;dyes 5;old 0 0;old 0 1;");
        // who does it alone gains; both together are overdone
        rest(2, 1, "sky 1 1;" + STILL + "dyes 10;bound 15;old 0 0;old 0 0;");
        rest(0, -1, "sky 1 2;rinse 0;old 1 1;old 1 0;dyes 10;fades row*(beside=0)*99+(1-row)*(beside=15)*10;");
        BlueBag x = Due.told("sky 2 1;" + STILL + "dyes skill;old 3 0;old 1 1;old 3 0;");
        DUE.is("P36 the other way round", 1, () -> x.game(1, 0, 1));
        DUE.is("P36 with the third", 11, () -> x.game(0, 2, 1));
        DUE.noSuch("P36 no such girl", () -> x.game(3, 0, 0));
        DUE.noSuch("P36 no such other", () -> x.game(0, -1, 0));
        DUE.noSuch("P36 what 2", () -> x.game(0, 1, 2));
        DUE.noSuch("P36 what -1", () -> x.game(0, 1, -1));
        DUE.illegal("P36 both are one", () -> x.game(1, 1, 0));
        DUE.noSuch("P36 what ahead of both being one", () -> x.game(1, 1, 2));
        DUE.noSuch("P36 no such girl ahead of both being one", () -> x.game(3, 3, 0));
        DUE.is("P36 nothing changes", 0, () -> x.count(9) + x.count(10) + x.count(3));
    }

    private static void skies(String text, int seed, int n, int martins, int blue, int knobs) {
        BlueBag x = Due.told(text);
        int[] want = {martins, blue, knobs};
        for (int what = 0; what <= 2; what++) {
            int w = what;
            DUE.is("P37 skies(" + seed + ", " + n + ", " + w + ") of: " + text, want[w], () -> x.skies(seed, n, w));
        }
        DUE.is("P37 nothing changes", 0, () -> x.count(3));
    }

    private static void allSkies() {
        // worked out apart from the class: which draws a seed gives, and what they do
        String few = "sky 4 1;" + STILL + "bound 15;knobs 3;peg 1;";
        skies(few, 0, 0, 0, 0, 3);
        skies(few, 0, 8, 8, 20, 18);
        skies(few, 1, 8, 5, 40, 13);
        skies(few, 5, 8, 0, 0, 18);
        skies(few, -7, 8, 0, 0, 13);
        skies(few, Integer.MAX_VALUE, 8, 2, 20, 13);
        String many = "sky 4 1;" + STILL + "bound 15;knobs 90;";
        skies(many, 0, 12, 19, 60, 99);
        skies(many, 1, 12, 10, 60, 99);
        skies(many, 5, 12, 12, 40, 99);
        skies(many, -7, 12, 4, 20, 99);
        skies(many, Integer.MAX_VALUE, 12, 7, 40, 99);
        String girls = "sky 4 1;" + STILL + "bound 15;knobs 10;old 0 0;old 0 3;";
        skies(girls, 0, 10, 20, 120, 10);
        skies(girls, 1, 10, 13, 120, 0);
        skies(girls, 5, 10, 16, 120, 0);
        skies(girls, -7, 10, 10, 60, 0);
        skies(girls, Integer.MAX_VALUE, 10, 5, 60, 0);
        String girl = "sky 4 1;" + STILL + "bound 15;knobs 10;old 0 2;";
        skies(girl, 5, 20, 41, 162, 5);
        skies(girl, -7, 20, 15, 100, 0);
        skies(girl, 123456789, 20, 45, 140, 15);
        BlueBag x = Due.told(few);
        DUE.noSuch("P37 what 3", () -> x.skies(0, 0, 3));
        DUE.noSuch("P37 what -1, ahead", () -> x.skies(0, 41, -1));
        DUE.illegal("P37 n 41", () -> x.skies(0, 41, 0));
        DUE.illegal("P37 n -1", () -> x.skies(0, -1, 0));
        DUE.is("P37 n 40", 1, () -> x.skies(0, 40, 2) >= 0 ? 1 : 0);
    }

    public static void main(String[] args) {
        game();
        allSkies();
        DUE.end();
    }
}
