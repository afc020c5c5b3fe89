/** Promises 18 to 26: what is best, and mud by odds. */
public final class BestTest {
    public static void main(String[] args) {
        best();
        bestFirstOfSeveral();
        place();
        never();
        oats();
        room();
        snow();
        rain();
        luck();
        mean();
        Due.close("BestTest");
    }

    static void best(String told, CoachCourt c, int many, int... stones) {
        Due.due(told + ": best(0)", c.best(0), many);
        for (int p = 0; p < stones.length; p++) {
            Due.due(told + ": best(" + (10 + p) + ")", c.best(10 + p), stones[p]);
        }
    }

    private static void best() {
        CoachCourt c = Due.told("mile 0 0;mile 1 0;plain 99 1 1 0;plain 99 1 0 1;room 1;");
        best("one is in the other's way", c, 2, 1, 0);
        Due.due("it changes nothing", c.party(0, 4), 0);
        Due.due("it changes nothing", c.party(1, 4), 1);
        Due.due("best(1)", c.best(1), -1);
        Due.due("best(-1)", c.best(-1), -1);
        Due.due("best(9)", c.best(9), -1);
        Due.due("best(12)", c.best(12), -1);
        Due.due("best(10) of nobody", Due.told("mile 0 0;").best(10), -1);
        best("nobody", Due.told("mile 0 0;"), 0);
        Due.due("best(0) of no mile", new CoachCourt().best(0), -2);
        Due.due("best(10) of no mile", new CoachCourt().best(10), -1);
        c.set(3, 0);
        best("snow", c, 0, 0, 0);
    }

    private static void bestFirstOfSeveral() {
        best("two of one land", Due.told("mile 0 0;mile 0 0;plain 9 1 0 1;plain 9 1 0 1;room 1;"), 2, 0, 1);
        best("three of two miles", Due.told("mile 0 0;mile 0 0;plain 9 1 0 1;plain 9 1 0 1;plain 9 1 0 1;room 1;"), 2, 0, 0, 1);
        best("who can not be heard is in the way", Due.told("mile 0 0;mile 0 0;mile 1 0;plain 9 1 3 2;plain 9 1 1 2;plain 9 1 0 1;room 1;"), 1, 1, 1, 0);
        best("short of wind", Due.told("mile 1 3;mile 1 3;mile 0 0;lame 9 1 0 0;plain 12 1 0 0;"), 2, 2, 2);
    }

    static void place(String told, CoachCourt c, int p, int stone, int verdict) {
        Due.due(told + ": place(" + p + ", 0)", c.place(p, 0), stone);
        Due.due(told + ": place(" + p + ", 1)", c.place(p, 1), verdict);
    }

    private static void place() {
        CoachCourt c = Due.told("mile 1 0;mile 0 1;mile 0 0;plain 99 4 0 2;plain 99 20 0 1;rider 99 1 2 0;");
        place("the last stone of the soonest", c, 0, 1, 1);
        place("nowhere", c, 1, -4, -4);
        place("no law", c, 2, -4, -4);
        Due.due("it changes nothing", c.party(0, 4), 2);
        c.alter(0, 2, 5);
        place("both are needed", c, 0, 1, 2);
        c.alter(0, 1, 1);
        place("no wind", c, 0, -4, -4);
        CoachCourt d = Due.told("mile 0 0;mile 0 0;plain 99 1 0 0;plain 99 1 0 0;room 1;");
        place("others as they stand", d, 1, 1, 1);
        place("nobody ahead", d, 0, 0, 0);
        int[][] bad = {{-1, 0}, {2, 0}, {0, -1}, {0, 2}};
        for (int[] b : bad) {
            Due.due("place(" + b[0] + ", " + b[1] + ")", d.place(b[0], b[1]), -1);
        }
    }

    private static void never() {
        CoachCourt c = Due.told("mile 0 0;mile 1 3;plain 2 1 0 1;plain 1 1 0 0;lame 21 1 1 0;rider 99 1 2 0;");
        Due.due("never()", c.never(), 14);
        c.alter(1, 1, 2);
        c.alter(2, 1, 22);
        Due.due("never() with more wind", c.never(), 8);
        c.set(3, 0);
        Due.due("never() in snow", c.never(), 15);
        CoachCourt d = Due.told("mile 0 0;plain 9 1 0 0;plain 9 1 0 0;room 1;");
        Due.due("never() for want of room", d.never(), 2);
    }

    private static void oats() {
        CoachCourt c = Due.told("mile 0 0;mile 0 1;plain 0 5 0 0;rider 50 5 0 0;lame 99 5 0 0;plain 99 1 1 0;");
        int[] due = {7, 3, 14, -4};
        for (int p = 0; p < 4; p++) {
            Due.due("oats(" + p + ")", c.oats(p), due[p]);
        }
        Due.due("it changes nothing", c.party(0, 1), 0);
        Due.due("oats(-1)", c.oats(-1), -1);
        Due.due("oats(4)", c.oats(4), -1);
        CoachCourt d = Due.told("mile 1 3;mile 1 3;mile 1 3;mile 1 3;mud 0;mile 0 0;lame 0 1 0 0;");
        Due.due("oats of nearly 99", d.oats(0), 28 + 3 * 22 + 4);
        d.pave(1, 2, 1);
        Due.due("oats beyond 99", d.oats(0), -4);
        d.stand(0, 1);
        Due.due("oats from mile 1", d.oats(0), 4 + 2 * 22 + 28);
    }

    private static void room() {
        CoachCourt c = Due.told("mile 0 0;plain 9 1 0 0;plain 9 1 0 0;plain 9 1 0 0;plain 9 1 0 0;room 1;");
        Due.due("room() of four", c.room(), 4);
        c.alter(3, 3, 1);
        Due.due("room() of three", c.room(), 3);
        c.alter(0, 3, 1);
        Due.due("room() with one in the way", c.room(), 3);
        c.alter(1, 3, 1);
        c.alter(2, 3, 1);
        Due.due("room() of none", c.room(), 1);
        Due.due("it changes nothing", c.rule(2), 1);
    }

    private static void snow() {
        CoachCourt c = Due.told("mile 0 0;mile 0 1;mile 0 0;plain 99 2 0 0;plain 99 1 0 2;snow 0;");
        Due.due("snow() of the last mile", c.snow(), 7);
        c.alter(1, 3, 1);
        Due.due("snow() of mile 1", c.snow(), 3);
        c.alter(0, 2, 1);
        Due.due("snow() of mile 0", c.snow(), 1);
        c.alter(0, 3, 2);
        Due.due("snow() of none", c.snow(), 0);
        Due.due("it changes nothing", c.rule(3), 0);
        CoachCourt d = Due.told("mile 0 3;mile 0 3;mile 0 3;mile 0 3;mile 0 3;mile 0 3;mile 0 3;mile 0 3;"
            + "mud 0;mud 1;mud 2;mud 3;mud 4;mud 5;mud 6;plain 99 1 0 7;");
        Due.due("the latest snow that there is", d.snow(), 78);
    }

    static void rain(String told, CoachCourt c, int where, int many) {
        Due.due(told + ": rain(0)", c.rain(0), where);
        Due.due(told + ": rain(1)", c.rain(1), many);
    }

    private static void rain() {
        CoachCourt c = Due.told("mile 0 0;plain 99 2 0 0;");
        rain("mud wakes him", c, 0, 1);
        Due.due("it changes nothing", c.count(0), 0);
        c.pave(0, 2, 1);
        rain("no more than as it is", c, -4, -4);
        rain("mud goes", Due.told("mile 0 1;mud 0;plain 5 4 0 0;"), 0, 1);
        rain("most", Due.told("mile 0 0;mile 1 0;mile 1 0;plain 99 2 0 0;plain 99 3 1 1;plain 99 3 1 1;"), 1, 2);
        rain("of several the first", Due.told("mile 1 0;mile 0 0;mile 0 0;plain 99 3 0 1;plain 99 1 1 0;"), 1, 2);
        rain("no mile", new CoachCourt(), -4, -4);
        Due.due("rain(-1)", c.rain(-1), -1);
        Due.due("rain(2)", c.rain(2), -1);
    }

    static void luck(CoachCourt c, int v, int p, long above, long below) {
        Due.due("luck(" + v + ", " + p + ", 0)", c.luck(v, p, 0), above);
        Due.due("luck(" + v + ", " + p + ", 1)", c.luck(v, p, 1), below);
    }

    private static void luck() {
        CoachCourt c = Due.told("mile 0 0;mile 0 0;plain 99 3 0 0;plain 99 7 0 0;plain 4 2 0 0;plain 9 1 1 0;");
        for (int mud = 0; mud < 2; mud++) {
            c.pave(0, 2, mud);
            luck(c, 0, 0, 0, 1);
            luck(c, 1, 0, 19, 100);
            luck(c, 5, 0, 3, 4);
            luck(c, 10, 0, 1, 1);
            luck(c, 1, 1, 1, 100);
            luck(c, 4, 1, 4, 25);
            luck(c, 3, 2, 49, 100);
            luck(c, 0, 2, 1, 1);
            luck(c, 7, 3, 0, 1);
            Due.due("it changes nothing", c.mile(0, 2), mud);
        }
        CoachCourt d = Due.told("mile 0 0;mile 0 0;mile 0 0;mile 0 0;mile 0 0;mile 0 0;mile 0 0;mile 0 0;rider 99 9 0 0;");
        luck(d, 1, 0, 100000000 - 43046721, 100000000);
        int[][] bad = {{-1, 0, 0}, {11, 0, 0}, {0, -1, 0}, {0, 4, 0}, {0, 0, -1}, {0, 0, 2}};
        for (int[] b : bad) {
            Due.due("luck(" + b[0] + ", " + b[1] + ", " + b[2] + ")", c.luck(b[0], b[1], b[2]), -1);
        }
        Due.due("luck(0, 0, 0) of nobody", Due.told("mile 0 0;").luck(0, 0, 0), -1);
    }

    static void mean(CoachCourt c, int v, long above, long below) {
        Due.due("mean(" + v + ", 0)", c.mean(v, 0), above);
        Due.due("mean(" + v + ", 1)", c.mean(v, 1), below);
    }

    private static void mean() {
        CoachCourt c = Due.told("mile 0 0;mile 0 0;plain 99 3 0 0;plain 99 7 0 0;mud 1;");
        mean(c, 0, 0, 1);
        mean(c, 1, 1, 5);
        mean(c, 5, 1, 1);
        mean(c, 10, 2, 1);
        c.alter(1, 2, 1);
        mean(c, 1, 119, 100);
        mean(c, 0, 1, 1);
        mean(Due.told("mile 0 0;"), 5, 0, 1);
        mean(new CoachCourt(), 5, 0, 1);
        int[][] bad = {{-1, 0}, {11, 0}, {0, -1}, {0, 2}};
        for (int[] b : bad) {
            Due.due("mean(" + b[0] + ", " + b[1] + ")", c.mean(b[0], b[1]), -1);
        }
    }
}
