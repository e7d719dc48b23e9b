/** Promises 32 to 35: what is seen, whose skill was another, where to look next. */
public final class SeenTest {
    private static final Due DUE = new Due("SeenTest");

    private static void see() {
        BlueBag x = new BlueBag();
        DUE.is("P32 the first", 1, () -> x.see(0, 0, 0));
        DUE.is("P32 the last of all", 2, () -> x.see(8, 20, 99));
        DUE.is("P32 days -1", -1, () -> x.see(0, -1, 0));
        DUE.is("P32 days 21", -1, () -> x.see(0, 21, 0));
        DUE.is("P32 blue -1", -1, () -> x.see(0, 0, -1));
        DUE.is("P32 blue 100", -1, () -> x.see(0, 0, 100));
        DUE.noSuch("P32 no such cell", () -> x.see(9, 0, 0));
        DUE.noSuch("P32 no such cell, ahead", () -> x.see(-1, 21, 100));
        DUE.is("P32 STATUS 2", 4, () -> x.count(16));
        for (int i = 3; i <= 8; i++) {
            int many = i;
            DUE.is("P32 SEEN " + i, many, () -> x.see(0, 0, 0));
        }
        DUE.is("P32 the ninth", -1, () -> x.see(0, 0, 0));
        DUE.is("P32 STATUS 2", 5, () -> x.count(16));
        DUE.is("P5 SEEN", 8, () -> x.count(12));
        DUE.noSuch("P32 no such cell, though there are 8", () -> x.see(9, 0, 0));
        x.forget();
        DUE.is("P35 forgotten", 0, () -> x.count(12));
        DUE.is("P35 STATUS stays", 5, () -> x.count(16));
        DUE.is("P35 seen anew", 1, () -> x.see(0, 0, 0));
        DUE.is("P5 it is no ACT", 0, () -> x.count(11));
    }

    private static void skilled() {
        BlueBag none = new BlueBag();
        DUE.is("P33 no girls", 0, () -> none.skilled(0));
        DUE.is("P33 no girls", -1, () -> none.skilled(1));
        DUE.is("P33 without", 1, () -> none.skilled(2));
        DUE.noSuch("P33 what 3", () -> none.skilled(3));
        DUE.noSuch("P33 what -1", () -> none.skilled(-1));
        BlueBag x = Due.told("sky 3 1;rinse 0;fades 0;old 0 0;old 5 2;");
        DUE.is("P33 nothing SEEN: all", 18, () -> x.skilled(0));
        DUE.is("P33 nothing SEEN: the first", 1, () -> x.skilled(1));
        x.see(2, 2, 13 * 2);
        DUE.is("P33 as it is", 1, () -> x.skilled(2));
        DUE.is("P33 any skill of the other one", 9, () -> x.skilled(0));
        DUE.is("P33 the first", 1, () -> x.skilled(1));
        x.see(0, 1, 11);
        DUE.is("P33 not as it is", 0, () -> x.skilled(2));
        DUE.is("P33 by one", 1, () -> x.skilled(0));
        DUE.is("P33 the other one by skill 4", 4, () -> x.skilled(1));
        x.see(1, 20, 0);
        DUE.is("P33 by one still", 1, () -> x.skilled(0));
        x.see(1, 20, 1);
        DUE.is("P33 by none", 0, () -> x.skilled(0));
        DUE.is("P33 no first", -1, () -> x.skilled(1));
        x.forget();
        x.see(2, 3, 21 * 3);
        DUE.is("P33 the second girl by skill 9", 19, () -> x.skilled(1));
        DUE.is("P33 by one", 1, () -> x.skilled(0));
        x.forget();
        x.see(0, 0, 0);
        DUE.is("P33 BLUE now", 18, () -> x.skilled(0));
        x.see(0, 0, 1);
        DUE.is("P33 BLUE now is another", 0, () -> x.skilled(0));
        // from now on: what is SEEN counts from the day of the question
        BlueBag y = Due.told("sky 1 1;rinse 0;fades 0;old 5 0;");
        y.see(0, 1, 13);
        DUE.is("P33 as it is", 1, () -> y.skilled(2));
        y.days(1);
        DUE.is("P33 from now on it would be 26", 0, () -> y.skilled(2));
        DUE.is("P33 the skills stay", 5, () -> y.girl(0, 0));
        BlueBag z = Due.told("sky 1 1;rinse 0;fades 0;old 5 0;knobs 0;");
        z.see(0, 20, 0);
        DUE.is("P33 without KNOBS all are alike", 9, () -> z.skilled(0));
    }

    private static void look() {
        BlueBag none = new BlueBag();
        DUE.is("P34 no girls", -1, () -> none.look(0));
        DUE.is("P34 no girls", 0, () -> none.look(1));
        DUE.noSuch("P34 what 2", () -> none.look(2));
        DUE.noSuch("P34 what -1", () -> none.look(-1));
        BlueBag x = Due.told("sky 3 1;rinse 0;fades 0;old 5 2;");
        DUE.is("P34 the cell", 2, () -> x.look(0));
        // 15, 25, 35, 45, 55, 75, 85, 95, 99
        DUE.is("P34 how many", 9, () -> x.look(1));
        x.see(2, 1, 11);
        DUE.is("P34 by one: all cells are alike, the least", 0, () -> x.look(0));
        DUE.is("P34 by one", 1, () -> x.look(1));
        x.see(2, 1, 12);
        DUE.is("P34 by none", -1, () -> x.look(0));
        DUE.is("P34 by none", 0, () -> x.look(1));
        // 10 and 15, 25, 35, 45, 55, 65, 75, 85, 95
        BlueBag y = Due.told("sky 2 1;rinse 0;fades 0;old 9 1;blue 1 10;");
        DUE.is("P34 the skill that she has is none of these", 9, () -> y.look(1));
        BlueBag z = Due.told("sky 2 1;rinse 0;fades 0;old 9 1;blue 1 30;");
        // 64 by skill 9, 0 by all others
        BlueBag w = Due.told("sky 1 1;rinse 0;blue 0 40;knobs 1;old 5 0;dyes skill/9*24;fades (blue<64)*99;");
        DUE.is("P34 0 and 64 are unlike", 2, () -> w.look(1));
        BlueBag v = Due.told("sky 1 1;rinse 0;blue 0 40;knobs 1;old 5 0;dyes skill/9*23;fades (blue<63)*99;");
        DUE.is("P34 0 and 63 are unlike", 2, () -> v.look(1));
        // 30 and 15, 25, 35, 45, 55, 65; from 75 on 99
        DUE.is("P34 99 at most are alike", 7, () -> z.look(1));
        BlueBag two = Due.told("sky 2 1;rinse 0;fades 0;old 9 0;old 5 1;");
        two.see(1, 1, 13);
        // the first one's skills 0 to 8 give 15 to 95, and the second one's 13 a day is 65 by all of them
        DUE.is("P34 each from the sky of now", 0, () -> two.look(0));
        DUE.is("P34 each from the sky of now", 9, () -> two.look(1));
    }

    public static void main(String[] args) {
        see();
        skilled();
        look();
        DUE.end();
    }
}
