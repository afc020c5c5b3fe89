/** Promises 33 to 39: images, sheets, count. */
public final class SheetTest {
    private static final String ROAD = "mile 0 0;mile 1 1;mud 1;plain 50 1 0 0;rider 40 1 1 1;room 3;snow 20;";

    public static void main(String[] args) {
        keep();
        back();
        imagesAreApart();
        sheet();
        lay();
        lanes();
        read();
        readTorn();
        readRefused();
        torn();
        count();
        Due.close("SheetTest");
    }

    private static void keep() {
        CoachCourt c = new CoachCourt();
        Due.due("keep(-1)", c.keep(-1), -1);
        Due.due("keep(2)", c.keep(2), -1);
        Due.due("keep(0)", c.keep(0), 0);
        Due.due("keep(0) again", c.keep(0), 1);
        Due.due("count(2)", c.count(2), 1);
        Due.due("keep(1)", c.keep(1), 0);
        Due.due("count(2)", c.count(2), 2);
        Due.due("back(0) of no road", c.back(0), 0);
    }

    private static void back() {
        CoachCourt c = Due.told(ROAD);
        Due.due("back(-1)", c.back(-1), -1);
        Due.due("back(2)", c.back(2), -1);
        Due.due("back(0) of none", c.back(0), -2);
        c.see(1, 1);
        c.keep(0);
        Due.due("back(1) of none", c.back(1), -2);
        for (int m = 0; m < 2; m++) {
            c.pave(m, 0, 3);
            c.pave(m, 1, 2);
            c.pave(m, 2, 1 - c.mile(m, 2));
        }
        for (int p = 0; p < 2; p++) {
            c.alter(p, 0, 2);
            c.alter(p, 1, 9);
            c.alter(p, 2, 9);
            c.alter(p, 3, 2);
        }
        c.stand(0, 1);
        c.stand(1, 0);
        c.set(2, 1);
        c.set(3, 5);
        c.forget(0);
        c.see(0, -4);
        c.see(0, -4);
        Due.feed(c, "abc");
        Due.due("back(0): VERDICTS", c.back(0), 2);
        int[][] miles = {{0, 0, 0}, {1, 1, 1}};
        int[][] parties = {{0, 50, 1, 0, 0}, {1, 40, 1, 1, 1}};
        for (int m = 0; m < 2; m++) {
            for (int what = 0; what < 3; what++) {
                Due.due("back: mile(" + m + ", " + what + ")", c.mile(m, what), miles[m][what]);
            }
        }
        for (int p = 0; p < 2; p++) {
            for (int what = 0; what < 5; what++) {
                Due.due("back: party(" + p + ", " + what + ")", c.party(p, what), parties[p][what]);
            }
        }
        Due.due("back: ROOM", c.rule(2), 3);
        Due.due("back: SNOW", c.rule(3), 20);
        Due.due("back: SEEN", c.count(1), 1);
        Due.due("back: turned()", c.turned(), 256);
        Due.due("back: THE TAPE stays", c.count(3), 3);
        Due.due("back: it stays an IMAGE", c.count(2), 1);
        c.stand(0, 1);
        Due.due("back(0) once more", c.back(0), 2);
        Due.due("back: party(0, 4)", c.party(0, 4), 0);
    }

    private static void imagesAreApart() {
        CoachCourt c = Due.told(ROAD);
        c.keep(0);
        c.alter(0, 3, 2);
        c.keep(1);
        c.alter(1, 3, 2);
        Due.due("VERDICTS", c.sum(0), 0);
        Due.due("back(0)", c.back(0), 2);
        Due.due("back(1)", c.back(1), 1);
        Due.due("keep(0) of IMAGE 1", c.keep(0), 1);
        c.alter(1, 3, 2);
        Due.due("back(0) then", c.back(0), 1);
    }

    private static void sheet() {
        CoachCourt c = new CoachCourt();
        int[][] bad = {{-1, 0, 1}, {4, 0, 1}, {0, -1, 1}, {0, 3, 1}, {0, 0, 41}, {-1, 0, -1}, {0, 3, -1}};
        for (int[] b : bad) {
            Due.due("sheet(" + b[0] + ", " + b[1] + ", " + b[2] + ")", c.sheet(b[0], b[1], b[2]), -1);
        }
        Due.due("sheet(0, 0, -1)", c.sheet(0, 0, -1), -14);
        Due.due("nothing still", c.count(4), -4);
        Due.due("sheet(0, 0, 40)", c.sheet(0, 0, 40), 1);
        Due.due("lay(0, 39, 1)", c.lay(0, 39, 1), 1);
        Due.due("sheet(0, 0, -7)", c.sheet(0, 0, -7), -14);
        Due.due("the old one still", c.count(4), 40);
        Due.due("sheet(0, 2, 0)", c.sheet(0, 2, 0), 1);
        Due.due("a row of no CELLS", c.count(4), 0);
        Due.due("lay(0, 0, 1) of no CELLS", c.lay(0, 0, 1), -12);
        CoachCourt d = Due.told(ROAD);
        d.sheet(3, 1, 2);
        d.lay(3, 0, 7);
        d.sheet(3, 1, 2);
        d.stand(0, 1);
        Due.due("a new row of CELLS 0", d.read(3, 1, 0, 1), 1);
        Due.due("party 0 at stone 0", d.party(0, 4), 0);
    }

    private static void lay() {
        CoachCourt c = new CoachCourt();
        c.sheet(1, 2, 3);
        Due.due("lay(-1, 0, 0)", c.lay(-1, 0, 0), -1);
        Due.due("lay(4, 0, 0)", c.lay(4, 0, 0), -1);
        Due.due("lay(0, 0, 0)", c.lay(0, 0, 0), -11);
        Due.due("lay(0, -1, 0)", c.lay(0, -1, 0), -11);
        Due.due("lay(1, -1, 0)", c.lay(1, -1, 0), -12);
        Due.due("lay(1, 3, 0)", c.lay(1, 3, 0), -12);
        Due.due("lay(1, 2, 0)", c.lay(1, 2, 0), 1);
        Due.due("lay(1, 0, 0)", c.lay(1, 0, 0), 1);
    }

    /** A number comes as a party if its lowest bits, with the sign of the lane, are that of one. */
    private static void laid(int lane, int v, int due) {
        CoachCourt c = Due.told(ROAD);
        c.sheet(2, lane, 2);
        Due.due("lay(2, 0, " + v + ")", c.lay(2, 0, v), 1);
        Due.due("lane " + lane + ", " + v, c.read(2, lane, 0, 1), due);
    }

    private static void lanes() {
        laid(0, 256, 1);
        laid(0, 257, 1);
        laid(0, 65536, 1);
        laid(0, -255, 1);
        laid(0, 255, -20);
        laid(0, 128, -20);
        laid(1, 256, -20);
        laid(1, 65536, 1);
        laid(1, -65535, 1);
        laid(1, 65535, -20);
        laid(2, 65536, -20);
        laid(2, 256, -20);
        laid(2, 1, 1);
        laid(2, Integer.MIN_VALUE, -20);
    }

    private static CoachCourt pairs(int... cells) {
        CoachCourt c = Due.told("mile 0 0;mile 0 0;mile 0 0;plain 9 1 0 0;plain 9 1 0 0;");
        c.sheet(0, 0, cells.length);
        for (int i = 0; i < cells.length; i++) {
            c.lay(0, i, cells[i]);
        }
        return c;
    }

    private static void stones(String told, CoachCourt c, int first, int second) {
        Due.due(told + ": party(0, 4)", c.party(0, 4), first);
        Due.due(told + ": party(1, 4)", c.party(1, 4), second);
    }

    private static void read() {
        CoachCourt c = pairs(0, 1, 1, 2, 0, 2);
        Due.due("read(0, 0, 0, 0)", c.read(0, 0, 0, 0), 0);
        stones("none", c, 0, 0);
        Due.due("read(0, 0, 0, 2)", c.read(0, 0, 0, 2), 2);
        stones("two", c, 1, 2);
        Due.due("read(0, 0, 0, 3)", c.read(0, 0, 0, 3), 3);
        stones("one behind another", c, 2, 2);
        Due.due("read(0, 0, 1, 1)", c.read(0, 0, 1, 1), 1);
        stones("from CELL 1 on", c, 2, 1);
        int[][] bad = {{-1, 0, 0, 1}, {4, 0, 0, 1}, {0, -1, 0, 1}, {0, 3, 0, 1}, {0, 0, 0, -1}, {0, 0, 0, 21}};
        for (int[] b : bad) {
            Due.due("read(" + b[0] + ", " + b[1] + ", " + b[2] + ", " + b[3] + ")", c.read(b[0], b[1], b[2], b[3]), -1);
        }
        CoachCourt d = Due.told(ROAD);
        d.sheet(0, 2, 40);
        Due.due("read(0, 2, 0, 20)", d.read(0, 2, 0, 20), 20);
        Due.due("torn() of 20", d.torn(), 0);
    }

    private static void tornBy(String told, CoachCourt c, int came, int fault, int... call) {
        Due.due(told, c.read(call[0], call[1], call[2], call[3]), came);
        Due.due(told + ": torn()", c.torn(), fault);
    }

    private static void readTorn() {
        CoachCourt c = pairs(0, 1, 1, 2, 0);
        tornBy("half a pair", c, 2, 2, 0, 0, 0, 3);
        stones("half a pair", c, 1, 2);
        c.stand(0, 0);
        c.stand(1, 0);
        tornBy("below the row", c, 0, 2, 0, 0, -1, 2);
        tornBy("far below the row", c, 0, 2, 0, 0, Integer.MIN_VALUE, 2);
        tornBy("behind the row", c, 0, 2, 0, 0, 5, 1);
        tornBy("the last CELL alone", c, 0, 2, 0, 0, 4, 1);
        tornBy("far behind the row", c, 0, 2, 0, 0, Integer.MAX_VALUE, 20);
        tornBy("another lane", c, 0, 3, 0, 1, 0, 2);
        tornBy("another lane, below the row", c, 0, 3, 0, 2, -1, 2);
        tornBy("nothing", c, 0, 1, 1, 0, 0, 2);
        tornBy("nothing, another lane", c, 0, 1, 3, 2, -1, 2);
        tornBy("none asked of nothing", c, 0, 0, 1, 0, 0, 0);
        stones("none came", c, 0, 0);
        c.sheet(0, 2, 0);
        tornBy("no CELLS", c, 0, 2, 0, 2, 0, 1);
    }

    private static void readRefused() {
        CoachCourt c = pairs(0, 1, 1, 3, 0, 2);
        Due.due("stone 3", c.read(0, 0, 0, 3), -21);
        stones("stone 3: none came", c, 0, 0);
        c.lay(0, 3, 2);
        c.lay(0, 4, 2);
        Due.due("party 2", c.read(0, 0, 0, 3), -22);
        Due.due("party 2, and the row is short", c.read(0, 0, 0, 9), -22);
        stones("party 2: none came", c, 0, 0);
        Due.due("ahead of it", c.read(0, 0, 0, 2), 2);
        stones("ahead of it", c, 1, 2);
        c.lay(0, 0, -1);
        Due.due("party -1", c.read(0, 0, 0, 1), -20);
        CoachCourt d = new CoachCourt();
        d.sheet(0, 0, 4);
        Due.due("nobody", d.read(0, 0, 0, 2), -20);
    }

    private static void torn() {
        CoachCourt c = pairs(0, 1, 1, 3);
        tornBy("nothing", c, 0, 1, 2, 0, 0, 1);
        Due.due("refused by stand()", c.read(0, 0, 0, 2), -21);
        Due.due("torn() stays", c.torn(), 1);
        Due.due("BAD", c.read(0, 0, 0, 21), -1);
        Due.due("torn() stays", c.torn(), 1);
        Due.due("lay() of nothing", c.lay(2, 0, 0), -11);
        Due.due("sheet() below 0", c.sheet(2, 0, -1), -14);
        Due.due("torn() stays", c.torn(), 1);
        tornBy("all came", c, 1, 0, 0, 0, 0, 1);
        tornBy("another lane", c, 0, 3, 0, 1, 0, 1);
        Due.tell(c, "mile 0 0;");
        Due.due("torn() behind a text", c.torn(), 3);
    }

    private static void count() {
        CoachCourt c = Due.told(ROAD);
        c.see(0, 0);
        c.see(1, 0);
        c.keep(1);
        c.sheet(0, 0, 7);
        c.sheet(1, 0, 9);
        Due.feed(c, "mud ");
        int[] due = {1, 2, 1, 4, 7, 90};
        for (int what = 0; what < 6; what++) {
            Due.due("count(" + what + ")", c.count(what), due[what]);
        }
        c.pave(0, 2, 1);
        Due.due("count(0) of two", c.count(0), 2);
        c.alter(1, 1, 0);
        Due.due("count(5) then", c.count(5), 50);
        Due.due("count(-1)", c.count(-1), -1);
        Due.due("count(6)", c.count(6), -1);
    }
}
