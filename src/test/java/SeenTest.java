/** Promises 27 to 32: what was seen, and stands by a seed. */
public final class SeenTest {
    private static final String ROAD = "mile 0 0;mile 1 0;mile 0 0;plain 99 1 0 1;";

    public static void main(String[] args) {
        see();
        forget();
        turned();
        turnedOfAll();
        laws();
        look();
        drift();
        Due.close("SeenTest");
    }

    private static void see() {
        CoachCourt c = Due.told(ROAD);
        int[][] bad = {{-1, 0}, {1, 0}, {0, -1}, {0, -2}, {0, -3}, {0, -5}, {0, 8}};
        for (int[] b : bad) {
            Due.due("see(" + b[0] + ", " + b[1] + ")", c.see(b[0], b[1]), -1);
        }
        int[] miles = {0, 2, 7, -4, 2, 2};
        for (int i = 0; i < 6; i++) {
            Due.due("see(0, " + miles[i] + ")", c.see(0, miles[i]), i + 1);
        }
        Due.due("the 7th", c.see(0, 2), -3);
        Due.due("the 7th, wrong too", c.see(0, 8), -1);
        Due.due("count(1)", c.count(1), 6);
        Due.due("see(0, 0) of nobody", Due.told("mile 0 0;").see(0, 0), -1);
    }

    private static void forget() {
        CoachCourt c = Due.told(ROAD);
        Due.due("forget(0) of nothing", c.forget(0), 0);
        Due.due("forget(1) of nothing", c.forget(1), -1);
        c.see(0, 2);
        c.see(0, 1);
        c.see(0, 0);
        Due.due("forget(-1)", c.forget(-1), -1);
        Due.due("forget(4)", c.forget(4), -1);
        Due.due("forget(3)", c.forget(3), 3);
        Due.due("turned() of what can not be", c.turned(), 0);
        Due.due("forget(1)", c.forget(1), 3);
        Due.due("count(1) behind forget(1)", c.count(1), 1);
        Due.due("the first one stays", c.turned(), 256);
        Due.due("see() behind forget()", c.see(0, 1), 2);
        Due.due("forget(0)", c.forget(0), 2);
    }

    private static void turned() {
        CoachCourt c = Due.told(ROAD);
        Due.due("turned() with nothing seen", c.turned(), 256 + 3);
        c.see(0, 1);
        Due.due("turned() by mile 1", c.turned(), 3);
        Due.due("it changes nothing", c.mile(0, 0), 0);
        Due.due("it changes nothing", c.mile(1, 0), 1);
        c.forget(0);
        c.see(0, 2);
        Due.due("turned() by mile 2", c.turned(), 256);
        c.see(0, 2);
        Due.due("turned() by mile 2 twice", c.turned(), 256);
        c.see(0, 1);
        Due.due("turned() by both", c.turned(), 0);
        c.forget(0);
        c.see(0, -4);
        Due.due("turned() by none", c.turned(), 0);
        c.forget(0);
        c.see(0, 7);
        Due.due("turned() by a mile that there is not", c.turned(), 0);
        CoachCourt d = Due.told("mile 0 0;mile 0 0;mile 1 0;plain 99 1 1 1;");
        d.see(0, 2);
        Due.due("lands that are alike", d.turned(), 256 + 1);
        Due.due("one mile", Due.told("mile 0 0;plain 9 1 0 0;").turned(), 256);
    }

    private static void turnedOfAll() {
        CoachCourt c = Due.told("mile 0 0;mile 1 0;mile 0 0;plain 99 1 0 1;plain 99 1 1 0;");
        c.see(0, 1);
        c.see(1, 2);
        Due.due("turned() of two", c.turned(), 2);
        c.forget(1);
        c.see(1, 0);
        Due.due("turned() of two", c.turned(), 1);
        CoachCourt d = Due.told("mile 0 0;mile 0 0;mile 0 0;mile 0 0;mile 0 0;mile 0 0;mile 0 0;mile 0 0;plain 99 1 0 0;");
        Due.due("turned() of 8 miles", d.turned(), 256 + 127);
    }

    private static void laws() {
        CoachCourt c = Due.told("mile 0 0;mile 1 0;mile 0 0;plain 99 1 0 1;plain 99 1 1 0;");
        Due.due("laws(0) with nothing seen", c.laws(0), 15);
        c.see(0, 2);
        Due.due("laws(0) by mile 2", c.laws(0), 1);
        Due.due("laws(1) has no say in it", c.laws(1), 15);
        c.forget(0);
        c.see(0, 1);
        Due.due("laws(0) by mile 1", c.laws(0), 2);
        Due.due("laws(1) can not help", c.laws(1), 0);
        Due.due("it changes nothing", c.party(0, 3), 0);
        c.forget(0);
        c.see(0, -4);
        Due.due("laws(0) by none", c.laws(0), 12);
        c.see(1, 0);
        Due.due("laws(0) by none, and mile 0 of another", c.laws(0), 0);
        Due.due("laws(-1)", c.laws(-1), -1);
        Due.due("laws(2)", c.laws(2), -1);
    }

    static void look(String told, CoachCourt c, int whom, int many) {
        Due.due(told + ": look(0)", c.look(0), whom);
        Due.due(told + ": look(1)", c.look(1), many);
    }

    private static void look() {
        CoachCourt c = Due.told(ROAD);
        look("one of three", c, 0, 2);
        c.see(0, 1);
        look("it is known already", c, -4, -4);
        c.see(0, 2);
        look("nothing is left", c, -4, -4);
        CoachCourt d = Due.told("mile 0 0;mile 1 0;mile 0 0;plain 99 1 0 1;plain 99 1 1 0;plain 99 1 1 0;");
        look("all three apart", d, 1, 1);
        d.see(0, 1);
        look("two apart", d, 1, 1);
        d.see(2, 0);
        look("one is left", d, -4, -4);
        CoachCourt e = Due.told("mile 0 0;mile 1 0;mile 0 0;mile 0 0;plain 99 1 1 2;plain 99 1 2 0;");
        look("a verdict or none", e, 0, 3);
        Due.due("look(-1)", e.look(-1), -1);
        Due.due("look(2)", e.look(2), -1);
        CoachCourt f = Due.told("mile 0 0;mile 1 0;plain 3 1 1 0;");
        look("mile 0 or none", f, 0, 1);
        CoachCourt g = Due.told("mile 1 0;mile 1 0;mile 1 0;mile 1 0;mile 1 0;mile 1 0;mile 0 0;mile 1 0;counsel 99 1 0 7;");
        look("mile 7 or none", g, 0, 7);
        g.see(0, -4);
        look("none", g, -4, -4);
        look("nobody", Due.told("mile 0 0;mile 1 0;"), -4, -4);
        look("no road", new CoachCourt(), -4, -4);
    }

    private static void drift(CoachCourt c, int seed, int n, int total, int who) {
        Due.due("drift(" + seed + ", " + n + ", 0)", c.drift(seed, n, 0), total);
        Due.due("drift(" + seed + ", " + n + ", 1)", c.drift(seed, n, 1), who);
    }

    private static void drift() {
        CoachCourt c = Due.told("mile 0 0;mile 1 0;mile 0 0;plain 2 1 0 2;plain 2 1 1 0;");
        drift(c, 0, 1, 1, 1);
        drift(c, 0, 2, 1, 0);
        drift(c, 0, 3, 1, 0);
        drift(c, 0, 4, 2, 2);
        drift(c, 1, 1, 0, 0);
        drift(c, 1, 2, 1, 2);
        drift(c, 1, 4, 2, 1);
        drift(c, -5, 4, 2, 1);
        Due.due("it changes nothing", c.party(0, 4), 2);
        Due.due("it changes nothing", c.party(1, 4), 0);
        int[][] bad = {{0, 0}, {61, 0}, {-1, 0}, {1, -1}, {1, 2}};
        for (int[] b : bad) {
            Due.due("drift(0, " + b[0] + ", " + b[1] + ")", c.drift(0, b[0], b[1]), -1);
        }
        drift(Due.told("mile 0 0;plain 9 1 0 0;"), 12345, 60, 60, 1);
        Due.due("drift() of nobody", Due.told("mile 0 0;").drift(0, 1, 0), -2);
        Due.due("drift() of no road", new CoachCourt().drift(0, 1, 0), -2);
        Due.due("drift() of no road, wrong too", new CoachCourt().drift(0, 0, 0), -1);
    }
}
