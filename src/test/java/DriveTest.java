/** Promises 15 to 17: a drive. */
public final class DriveTest {
    private static final String FLAT = "mile 0 0;mile 0 0;mile 0 0;";

    public static void main(String[] args) {
        windIsJustEnough();
        kinds();
        hearingByLaw();
        room();
        counsel();
        snow();
        sums();
        wrongNumbers();
        Due.close("DriveTest");
    }

    static void fate(String told, CoachCourt c, int p, int... due) {
        for (int what = 0; what < due.length; what++) {
            Due.due(told + ": fate(" + p + ", " + what + ")", c.fate(p, what), due[what]);
        }
    }

    static void beside(String told, CoachCourt c, int... due) {
        for (int m = 0; m < due.length; m++) {
            Due.due(told + ": beside(" + m + ")", c.beside(m), due[m]);
        }
    }

    private static void windIsJustEnough() {
        CoachCourt c = Due.told(FLAT + "plain 4 2 0 0;");
        fate("wind 4", c, 0, 1, -4, 2, 0);
        beside("wind 4", c, 1, 1, 0);
        c.alter(0, 1, 3);
        fate("wind 3", c, 0, -4, 1, 1, 1);
        beside("wind 3", c, 1, 0, 0);
        c.alter(0, 1, 1);
        fate("wind 1", c, 0, -4, 0, 0, 1);
        c.alter(0, 1, 99);
        c.alter(0, 2, 20);
        fate("need 20", c, 0, -4, -4, 3, 93);
        beside("need 20", c, 1, 1, 1);
        c.stand(0, 2);
        fate("from 2", c, 0, -4, -4, 1, 97);
        beside("from 2", c, 0, 0, 1);
    }

    private static void kinds() {
        CoachCourt c = Due.told("mile 0 1;mile 0 1;plain 20 8 0 0;rider 20 8 0 0;lame 20 8 0 0;counsel 20 8 0 0;");
        fate("plain", c, 0, 1, -4, 8, 10);
        fate("rider", c, 1, 1, -4, 8, 16);
        fate("lame", c, 2, 1, -4, 8, 0);
        fate("counsel", c, 3, 1, -4, 8, 10);
        c.alter(2, 1, 19);
        fate("lame of 19", c, 2, -4, 1, 4, 9);
    }

    private static void hearingByLaw() {
        CoachCourt c = Due.told("mile 1 2;mile 0 0;mile 1 0;mile 0 2;mud 2;plain 99 7 0 0;plain 99 11 1 0;plain 99 6 1 0;");
        fate("law 0", c, 0, 3, -4, 7, 99 - 8 - 2 - 5 - 8);
        fate("law 1", c, 1, 2, -4, 11, 99 - 8 - 2 - 5);
        fate("need 6", c, 2, 0, -4, 6, 91);
        beside("law", c, 7, 3, 3, 1);
        c.alter(1, 3, 2);
        fate("law 2", c, 1, -4, -4, 0, 99 - 8 - 2 - 5 - 8);
    }

    private static void room() {
        CoachCourt c = Due.told(FLAT + "plain 99 1 0 0;plain 99 1 0 0;room 1;");
        fate("who is heard takes room", c, 0, 0, -4, 1, 97);
        fate("no room", c, 1, -4, 0, 0, 99);
        c.stand(1, 1);
        fate("room in the next mile", c, 1, 1, -4, 1, 97);
        c.stand(0, 1);
        c.stand(1, 0);
        c.alter(1, 2, 2);
        fate("the lower number stands in the way", c, 0, 1, -4, 1, 97);
        fate("who runs already has no right", c, 1, -4, 1, 1, 97);
        beside("lower number", c, 2, 1, 0);
        c.set(2, 2);
        fate("room for two", c, 1, 1, -4, 2, 95);
        beside("room for two", c, 2, 3, 0);
        CoachCourt d = Due.told(FLAT + "plain 1 1 0 0;plain 99 1 0 0;room 1;");
        fate("who falls takes no room", d, 0, -4, 0, 0, 1);
        fate("room of who falls", d, 1, 0, -4, 1, 97);
        CoachCourt e = Due.told("mile 0 0;plain 9 1 0 0;plain 9 1 0 0;plain 9 1 0 0;plain 9 1 0 0;room 3;");
        beside("room 3", e, 7);
        Due.due("room 3: sum(4)", e.sum(4), 8);
    }

    private static void counsel() {
        CoachCourt c = Due.told("mile 0 0;mile 1 0;mile 1 0;mile 0 0;counsel 99 2 1 1;counsel 99 2 1 0;counsel 99 3 1 1;plain 99 2 1 0;");
        fate("counsel begins at a border", c, 0, 2, -4, 2, 95);
        fate("counsel gets off", c, 1, -4, 1, 0, 97);
        fate("counsel gets off behind its land", c, 2, -4, 3, 2, 95);
        fate("plain runs on", c, 3, 2, -4, 2, 93);
        beside("counsel", c, 10, 13, 13, 0);
    }

    private static void snow() {
        CoachCourt c = Due.told("mile 0 0;mile 0 1;mile 0 0;plain 99 6 0 0;plain 99 1 0 2;snow 6;");
        fate("snow 6", c, 0, -4, -4, 5, 92);
        fate("snow 6, nobody came", c, 1, -4, -4, 0, 99);
        beside("snow 6", c, 1, 1, 0);
        c.set(3, 7);
        fate("snow 7", c, 0, 2, -4, 6, 90);
        fate("snow 7", c, 1, 2, -4, 1, 97);
        c.set(3, 2);
        beside("snow 2", c, 1, 0, 0);
        c.set(3, 0);
        fate("snow 0", c, 0, -4, -4, 0, 99);
        beside("snow 0", c, 0, 0, 0);
        c.set(3, 1);
        c.alter(0, 1, 1);
        fate("snow 1", c, 0, -4, 0, 0, 1);
    }

    private static void sums() {
        CoachCourt c = Due.told("mile 0 0;mile 1 1;mile 0 0;rider 50 4 1 0;plain 50 1 0 0;lame 3 1 1 1;plain 9 20 1 1;");
        int[] due = {2, 3, 1, 4 + 1 + 4, 12};
        c.alter(3, 1, 5);
        for (int what = 0; what < 5; what++) {
            Due.due("sum(" + what + ")", c.sum(what), due[what]);
        }
        c.stand(1, 2);
        Due.due("sum(2) of the last verdict", c.sum(2), 2);
        c.set(3, 0);
        int[] none = {0, 0, -4, 0, 0};
        for (int what = 0; what < 5; what++) {
            Due.due("sum(" + what + ") in snow", c.sum(what), none[what]);
        }
    }

    private static void wrongNumbers() {
        CoachCourt c = Due.told(FLAT + "plain 4 2 0 0;");
        Due.due("fate(-1, 0)", c.fate(-1, 0), -1);
        Due.due("fate(1, 0)", c.fate(1, 0), -1);
        Due.due("fate(0, -1)", c.fate(0, -1), -1);
        Due.due("fate(0, 4)", c.fate(0, 4), -1);
        Due.due("beside(-1)", c.beside(-1), -1);
        Due.due("beside(3)", c.beside(3), -1);
        Due.due("sum(-1)", c.sum(-1), -1);
        Due.due("sum(5)", c.sum(5), -1);
    }
}
