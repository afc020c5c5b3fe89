/** Promises 10 to 14: what is changed. */
public final class ChangeTest {
    public static void main(String[] args) {
        pave();
        alter();
        stand();
        set();
        turn();
        Due.close("ChangeTest");
    }

    private static void pave() {
        CoachCourt c = Due.told("mile 1 2;mile 3 0;mud 0;");
        Due.due("pave(0, 0, 3)", c.pave(0, 0, 3), 1);
        Due.due("pave(0, 0, 0)", c.pave(0, 0, 0), 3);
        Due.due("pave(0, 1, 3)", c.pave(0, 1, 3), 2);
        Due.due("pave(0, 2, 0)", c.pave(0, 2, 0), 1);
        Due.due("pave(1, 2, 1)", c.pave(1, 2, 1), 0);
        Due.due("pave(1, 2, 1) again", c.pave(1, 2, 1), 1);
        int[][] bad = {{-1, 0, 0}, {2, 0, 0}, {0, -1, 0}, {0, 3, 0}, {0, 0, -1}, {0, 0, 4}, {0, 1, -1}, {0, 1, 4}, {0, 2, -1}, {0, 2, 2}};
        for (int[] b : bad) {
            Due.due("pave(" + b[0] + ", " + b[1] + ", " + b[2] + ")", c.pave(b[0], b[1], b[2]), -1);
        }
        int[][] miles = {{0, 3, 0, 8}, {3, 0, 1, 5}};
        for (int m = 0; m < 2; m++) {
            for (int what = 0; what < 4; what++) {
                Due.due("mile(" + m + ", " + what + ") paved", c.mile(m, what), miles[m][what]);
            }
        }
    }

    private static void alter() {
        CoachCourt c = Due.told("mile 0 0;mile 0 0;plain 10 5 1 1;lame 11 6 2 0;");
        Due.due("alter(0, 0, 3)", c.alter(0, 0, 3), 0);
        Due.due("alter(0, 0, 0)", c.alter(0, 0, 0), 3);
        Due.due("alter(0, 1, 99)", c.alter(0, 1, 99), 10);
        Due.due("alter(0, 1, 0)", c.alter(0, 1, 0), 99);
        Due.due("alter(0, 2, 20)", c.alter(0, 2, 20), 5);
        Due.due("alter(0, 2, 1)", c.alter(0, 2, 1), 20);
        Due.due("alter(0, 3, 3)", c.alter(0, 3, 3), 1);
        Due.due("alter(0, 3, 0)", c.alter(0, 3, 0), 3);
        Due.due("alter(1, 0, 1)", c.alter(1, 0, 1), 2);
        int[][] bad = {{-1, 0, 0}, {2, 0, 0}, {0, -1, 0}, {0, 4, 0}, {0, 0, -1}, {0, 0, 4}, {0, 1, -1}, {0, 1, 100},
            {0, 2, 0}, {0, 2, 21}, {0, 3, -1}, {0, 3, 4}};
        for (int[] b : bad) {
            Due.due("alter(" + b[0] + ", " + b[1] + ", " + b[2] + ")", c.alter(b[0], b[1], b[2]), -1);
        }
        int[][] parties = {{0, 0, 1, 0, 1}, {1, 11, 6, 2, 0}};
        for (int p = 0; p < 2; p++) {
            for (int what = 0; what < 5; what++) {
                Due.due("party(" + p + ", " + what + ") altered", c.party(p, what), parties[p][what]);
            }
        }
    }

    private static void stand() {
        CoachCourt c = Due.told("mile 0 0;mile 0 0;plain 10 5 1 1;lame 11 6 2 0;");
        Due.due("stand(0, 0)", c.stand(0, 0), 1);
        Due.due("stand(0, 1)", c.stand(0, 1), 0);
        Due.due("stand(1, 1)", c.stand(1, 1), 0);
        Due.due("stand(-1, 0)", c.stand(-1, 0), -1);
        Due.due("stand(2, 0)", c.stand(2, 0), -1);
        Due.due("stand(0, -1)", c.stand(0, -1), -1);
        Due.due("stand(0, 2)", c.stand(0, 2), -1);
        Due.due("party(0, 4)", c.party(0, 4), 1);
        Due.due("party(1, 4)", c.party(1, 4), 1);
    }

    private static void set() {
        CoachCourt c = Due.told("mile 0 0;room 2;snow 50;");
        Due.due("set(2, 4)", c.set(2, 4), 2);
        Due.due("set(2, 1)", c.set(2, 1), 4);
        Due.due("set(3, 99)", c.set(3, 99), 50);
        Due.due("set(3, 0)", c.set(3, 0), 99);
        int[][] bad = {{2, 0}, {2, 5}, {2, -1}, {3, -1}, {3, 100}, {1, 1}, {4, 1}, {0, 1}, {-1, 1}};
        for (int[] b : bad) {
            Due.due("set(" + b[0] + ", " + b[1] + ")", c.set(b[0], b[1]), -1);
        }
        Due.due("ROOM", c.rule(2), 1);
        Due.due("SNOW", c.rule(3), 0);
        Due.due("set(2, 3) of a new one", new CoachCourt().set(2, 3), 4);
    }

    private static void turn() {
        CoachCourt c = Due.told("mile 1 2;mile 3 0;mile 2 1;mud 0;");
        Due.due("turn(0)", c.turn(0), 3);
        Due.due("turn(1)", c.turn(1), 2);
        Due.due("turn(2): the last", c.turn(2), -1);
        Due.due("turn(3)", c.turn(3), -1);
        Due.due("turn(-1)", c.turn(-1), -1);
        int[][] miles = {{3, 2, 1}, {2, 0, 0}, {1, 1, 0}};
        for (int m = 0; m < 3; m++) {
            for (int what = 0; what < 3; what++) {
                Due.due("mile(" + m + ", " + what + ") turned", c.mile(m, what), miles[m][what]);
            }
        }
        Due.due("turn(0) of one mile", Due.told("mile 0 0;").turn(0), -1);
        Due.due("turn(0) of none", new CoachCourt().turn(0), -1);
    }
}
