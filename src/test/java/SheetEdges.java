/** Promises 33 to 39: images, sheets, count. */
final class SheetEdges {
    private static final String ROAD = "mile 0 0;mile 0 0;mile 0 0;plain 9 1 0 0;plain 9 1 0 0;";
    private static final Twins.Call SHEET = (c, a) -> c.sheet(a[0], a[1], a[2]);
    private static final Twins.Call LAY = (c, a) -> c.lay(a[0], a[1], a[2]);
    private static final Twins.Call READ = (c, a) -> c.read(a[0], a[1], a[2], a[3]);

    private SheetEdges() { }

    static void ask() {
        keep();
        back();
        sheet();
        lay();
        read();
        readTorn();
        readRefused();
        torn();
        count();
    }

    private static void changeAll(CoachCourt c) {
        for (int m = 0; m < 5; m++) {
            c.pave(m, 0, 3 - c.mile(m, 0));
            c.pave(m, 1, 3 - c.mile(m, 1));
            c.pave(m, 2, 1 - c.mile(m, 2));
        }
        for (int p = 0; p < 4; p++) {
            c.alter(p, 0, 3 - c.party(p, 0));
            c.alter(p, 1, p);
            c.alter(p, 2, p + 11);
            c.alter(p, 3, 3 - c.party(p, 3));
            c.stand(p, 4);
        }
        c.set(2, 4);
        c.set(3, 9);
        c.forget(0);
        c.see(3, 3);
    }

    private static void keep() {
        Sentence.of(33, "IMAGE k (0, 1) is THE ROAD, PARTIES (all of them), ROOM, SNOW, what was SEEN");
        for (int k = 0; k < 2; k++) {
            int image = k;
            Twins.alike("IMAGE " + k, () -> {
                CoachCourt c = Twins.busy();
                c.keep(image);
                changeAll(c);
                c.back(image);
                return c;
            }, () -> {
                CoachCourt c = Twins.busy();
                c.keep(image);
                return c;
            });
        }
        Sentence.of(33, "whether there was one (1, 0).");
        CoachCourt c = new CoachCourt();
        Due.due("keep(1)", c.keep(1), 0);
        Due.due("keep(1) once more", c.keep(1), 1);
        Due.due("keep(0)", c.keep(0), 0);
        Due.due("keep(0) once more", c.keep(0), 1);
        c.text();
        Due.due("keep(0) behind a text", c.keep(0), 0);
        Due.due("keep(1) behind a text", c.keep(1), 0);
        Sentence.of(33, "BAD.");
        Twins.bad("keep", (x, a) -> x.keep(a[0]), new int[] {0}, 0, -1, 2);
    }

    private static void back() {
        Sentence.of(34, "All is as IMAGE k: how many VERDICTS by THE DRIVE.");
        CoachCourt c = Due.told(ROAD);
        c.keep(0);
        c.alter(0, 3, 1);
        c.keep(1);
        c.alter(1, 3, 1);
        Due.due("of nobody", c.sum(0), 0);
        Due.due("back(1)", c.back(1), 1);
        Due.due("back(0)", c.back(0), 2);
        Due.due("LAW as it was", c.party(0, 3), 0);
        Due.due("both IMAGES stay", c.count(2), 2);
        c.alter(0, 3, 3);
        Due.due("what is changed then is not the IMAGE's", c.back(0), 2);
        CoachCourt none = new CoachCourt();
        none.keep(0);
        Due.due("an IMAGE of no road", none.back(0), 0);
        Sentence.of(34, "BAD");
        Twins.bad("back", (x, a) -> x.back(a[0]), new int[] {0}, 0, -1, 2);
        Sentence.of(34, "STATE: there is none.");
        CoachCourt one = Due.told(ROAD);
        Due.due("neither: back(0)", one.back(0), -2);
        Due.due("neither: back(1)", one.back(1), -2);
        one.keep(1);
        Due.due("the other one: back(0)", one.back(0), -2);
        Due.tell(one, "mile 0 0;");
        Due.due("gone: back(1)", one.back(1), -2);
    }

    /** Of CELLS that are all 0 twenty times PARTY 0 and stone 0 come; of CELLS that are all 5 none does. */
    private static void sheet() {
        Sentence.of(35, "A SHEET is a new row of CELLS 0: 1.");
        CoachCourt c = Due.told(ROAD);
        for (int lane = 0; lane < 3; lane++) {
            c.sheet(0, lane, 40);
            for (int i = 0; i < 40; i++) {
                Due.due("lay(0, " + i + ", 5)", c.lay(0, i, 5), 1);
            }
            Due.due("none is 0", c.read(0, lane, 0, 20), -20);
            Due.due("a new row", c.sheet(0, lane, 40), 1);
            Due.due("all are 0", c.read(0, lane, 0, 20), 20);
        }
        Due.due("a row of none", c.sheet(0, 0, 0), 1);
        Due.due("none are there", c.count(4), 0);
        Due.due("a row of 40", c.sheet(0, 0, 40), 1);
        Due.due("40 are there", c.count(4), 40);
        Due.due("a row of another lane", c.sheet(0, 1, 2), 1);
        Due.due("it is of that lane", c.read(0, 1, 0, 1), 1);
        Sentence.of(35, "BAD: also n above 40");
        Twins.bad("sheet", SHEET, new int[] {0, 0, 1}, 0, -1, 4);
        Twins.bad("sheet", SHEET, new int[] {0, 0, 1}, 1, -1, 3);
        Twins.unchanged("sheet", Twins::busy, -1, SHEET, 0, 0, 41);
        Twins.unchanged("sheet", Twins::busy, -1, SHEET, 0, 0, Integer.MAX_VALUE);
        Sentence.of(35, "-10 - 4.");
        Twins.unchanged("sheet", Twins::busy, -14, SHEET, 0, 1, -1);
        Twins.unchanged("sheet", Twins::busy, -14, SHEET, 3, 2, Integer.MIN_VALUE);
        Twins.unchanged("sheet", Twins::busy, -1, SHEET, 4, 1, -1);
        Twins.unchanged("sheet", Twins::busy, -1, SHEET, 0, 3, -1);
    }

    /** What a laid number has become: party 0 or 1 that comes, or one that there is not. */
    private static void laid(int lane, int v, int came, int p) {
        CoachCourt c = Due.told(ROAD);
        c.sheet(3, lane, 2);
        c.lay(3, 1, 2);
        Due.due("lay(3, 0, " + v + ") in lane " + lane, c.lay(3, 0, v), 1);
        Due.due("it comes, " + v + " in lane " + lane, c.read(3, lane, 0, 1), came);
        if (came == 1) {
            Due.due("it is of " + p + ", " + v + " in lane " + lane, c.party(p, 4), 2);
        }
    }

    private static void lay() {
        Sentence.of(36, "CELL i of a SHEET becomes v (its lowest bits): 1.");
        int[][] came = {{0, 0, 0}, {0, 1, 1}, {0, 256, 0}, {0, 257, 1}, {0, -255, 1}, {0, -256, 0}, {0, Integer.MIN_VALUE, 0},
            {1, 1, 1}, {1, 65536, 0}, {1, 65537, 1}, {1, -65535, 1}, {1, Integer.MIN_VALUE, 0}, {2, 0, 0}, {2, 1, 1}};
        for (int[] a : came) {
            laid(a[0], a[1], 1, a[2]);
        }
        int[][] not = {{0, -1}, {0, 2}, {0, 127}, {0, 128}, {0, 255}, {0, Integer.MAX_VALUE}, {1, 256}, {1, -1}, {1, 32767}, {1, 32768}, {1, 65535},
            {1, Integer.MAX_VALUE}, {2, 256}, {2, 65536}, {2, -65535}, {2, -1}, {2, Integer.MAX_VALUE}, {2, Integer.MIN_VALUE}};
        for (int[] a : not) {
            laid(a[0], a[1], -20, 0);
        }
        CoachCourt c = new CoachCourt();
        c.sheet(2, 1, 40);
        Due.due("CELL 0", c.lay(2, 0, 7), 1);
        Due.due("CELL 39", c.lay(2, 39, 7), 1);
        Sentence.of(36, "BAD: k");
        Twins.bad("lay", LAY, new int[] {0, 0, 0}, 0, -1, 4);
        Sentence.of(36, "-10 less the FAULT: NULL, INDEX.");
        int[] wrong = {-1, 4, 40, Integer.MIN_VALUE, Integer.MAX_VALUE};
        for (int i : wrong) {
            Twins.unchanged("lay", Twins::busy, -12, LAY, 0, i, 1);
            Twins.unchanged("lay", Twins::busy, -11, LAY, 3, i, 1);
        }
        Twins.unchanged("lay", Twins::busy, -11, LAY, 3, 0, 1);
        c.sheet(0, 0, 0);
        Due.due("a row of none", c.lay(0, 0, 1), -12);
        Due.due("CELL 40 of 40", c.lay(2, 40, 1), -12);
    }

    private static CoachCourt pairs(int lane, int... cells) {
        CoachCourt c = Due.told(ROAD);
        c.sheet(0, lane, cells.length);
        for (int i = 0; i < cells.length; i++) {
            c.lay(0, i, cells[i]);
        }
        return c;
    }

    /** Reads, and asks for what came, the FAULT and where both then stand. */
    private static void reads(String told, CoachCourt c, int[] call, int came, int fault, int... stones) {
        Due.due(told, READ.on(c, call), came);
        Due.due(told + ": torn()", c.torn(), fault);
        for (int p = 0; p < 2; p++) {
            Due.due(told + ": party(" + p + ", 4)", c.party(p, 4), stones[p]);
        }
    }

    private static int[] call(int... numbers) {
        return numbers;
    }

    private static void read() {
        Sentence.of(37, "n (0 to 20) times a PARTY, a stone are read of a SHEET taken as of a lane, two CELLS each from CELL f on");
        for (int lane = 0; lane < 3; lane++) {
            CoachCourt c = pairs(lane, 0, 1, 1, 2, 0, 2);
            reads("n 0", c, call(0, lane, 0, 0), 0, 0, 0, 0);
            reads("n 1", c, call(0, lane, 0, 1), 1, 0, 1, 0);
            reads("from CELL 2", c, call(0, lane, 2, 1), 1, 0, 1, 2);
            reads("from CELL 1", c, call(0, lane, 1, 1), 1, 0, 1, 1);
            reads("from CELL 4, the last two", c, call(0, lane, 4, 1), 1, 0, 2, 1);
        }
        CoachCourt d = Due.told(ROAD);
        d.sheet(3, 2, 40);
        d.lay(3, 39, 2);
        reads("n 20", d, call(3, 2, 0, 20), 20, 0, 2, 0);
        Sentence.of(37, "one behind another as by stand(): how many came.");
        CoachCourt c = pairs(0, 0, 1, 1, 2, 0, 2);
        reads("the last of one PARTY", c, call(0, 0, 0, 3), 3, 0, 2, 2);
        reads("the same once more", c, call(0, 0, 0, 2), 2, 0, 1, 2);
    }

    private static void readTorn() {
        Sentence.of(37, "What the machine refuses: those that were whole ahead came (its FAULT is asked by torn()).");
        reads("half of the third", pairs(0, 0, 1, 1, 2, 0), call(0, 0, 0, 3), 2, 2, 1, 2);
        reads("half of one, of whom there is not", pairs(0, 0, 1, 9), call(0, 0, 0, 2), 1, 2, 1, 0);
        reads("the row's end", pairs(0, 0, 1, 1, 2), call(0, 0, 0, 20), 2, 2, 1, 2);
        reads("below the row", pairs(0, 0, 1, 1, 2), call(0, 0, -1, 2), 0, 2, 0, 0);
        reads("two below the row", pairs(0, 0, 1, 1, 2), call(0, 0, -2, 2), 0, 2, 0, 0);
        reads("behind the row", pairs(0, 0, 1, 1, 2), call(0, 0, 4, 1), 0, 2, 0, 0);
        reads("the last CELL", pairs(0, 0, 1, 1, 2), call(0, 0, 3, 1), 0, 2, 0, 0);
        reads("a row of none", pairs(0), call(0, 0, 0, 1), 0, 2, 0, 0);
        int[] far = {Integer.MAX_VALUE, Integer.MAX_VALUE - 1, Integer.MIN_VALUE, Integer.MIN_VALUE + 1};
        for (int f : far) {
            reads("far from the row", pairs(0, 0, 1, 1, 2), call(0, 0, f, 20), 0, 2, 0, 0);
        }
        for (int lane = 0; lane < 3; lane++) {
            reads("another lane", pairs(lane, 0, 1), call(0, (lane + 1) % 3, 0, 1), 0, 3, 0, 0);
            reads("another lane, below the row", pairs(lane, 0, 1), call(0, (lane + 2) % 3, -1, 1), 0, 3, 0, 0);
            reads("nothing", pairs(lane, 0, 1), call(1, lane, 0, 1), 0, 1, 0, 0);
            reads("nothing, below the row", pairs(lane, 0, 1), call(3, lane, -1, 20), 0, 1, 0, 0);
        }
    }

    private static void readRefused() {
        Sentence.of(37, "BAD: k, lane, n");
        Twins.bad("read", READ, new int[] {0, 0, 0, 1}, 0, -1, 4);
        Twins.bad("read", READ, new int[] {0, 0, 0, 1}, 1, -1, 3);
        Twins.bad("read", READ, new int[] {0, 0, 0, 1}, 3, -1, 21);
        Sentence.of(37, "-20 less i: the i-th, whole, is refused by stand(): then none came");
        reads("stone 3", pairs(0, 0, 1, 1, 3), call(0, 0, 0, 2), -21, 0, 0, 0);
        reads("stone -1", pairs(0, 0, 1, 1, -1), call(0, 0, 0, 2), -21, 0, 0, 0);
        reads("PARTY 2", pairs(0, 0, 1, 2, 1), call(0, 0, 0, 2), -21, 0, 0, 0);
        reads("PARTY -1", pairs(0, -1, 1), call(0, 0, 0, 1), -20, 0, 0, 0);
        CoachCourt c = Due.told(ROAD);
        c.sheet(0, 0, 40);
        c.lay(0, 1, 2);
        c.lay(0, 39, 3);
        reads("the last of 20", c, call(0, 0, 0, 20), -39, 0, 0, 0);
        reads("all but the last of 20", c, call(0, 0, 0, 19), 19, 0, 0, 0);
        CoachCourt none = new CoachCourt();
        none.sheet(0, 0, 2);
        Due.due("nobody, no road", none.read(0, 0, 0, 1), -20);
        Sentence.of(37, "the first met.");
        reads("two are refused", pairs(0, 0, 1, 9, 9, 9, 9), call(0, 0, 0, 3), -21, 0, 0, 0);
        reads("one is refused ahead of the row's end", pairs(0, 0, 1, 9, 9), call(0, 0, 0, 3), -21, 0, 0, 0);
        reads("the row's end ahead of one that might be", pairs(0, 0, 1), call(0, 0, 0, 3), 1, 2, 1, 0);
    }

    private static void torn() {
        Sentence.of(38, "The FAULT of the latest read() that came to an end; 0.");
        CoachCourt c = pairs(0, 0, 1, 9, 9);
        Due.due("no read() yet", c.torn(), 0);
        c.lay(1, 0, 0);
        c.sheet(1, 0, -1);
        Due.due("still none", c.torn(), 0);
        c.read(1, 0, 0, 1);
        Due.due("NULL", c.torn(), 1);
        c.read(0, 0, 0, 2);
        Due.due("refused by stand(), no end", c.torn(), 1);
        c.read(0, 0, 0, 21);
        Due.due("BAD, no end", c.torn(), 1);
        c.read(0, 0, 3, 1);
        Due.due("INDEX", c.torn(), 2);
        c.read(0, 1, 0, 1);
        Due.due("CAST", c.torn(), 3);
        Due.tell(c, "mile 0 0;mile 0 0;plain 9 1 0 0;");
        c.keep(0);
        c.back(0);
        c.sheet(2, 0, 4);
        Due.due("no other call has a say", c.torn(), 3);
        c.read(0, 0, 0, 1);
        Due.due("a read() without one", c.torn(), 0);
        c.read(1, 0, 0, 1);
        c.read(0, 0, 0, 0);
        Due.due("a read() of none", c.torn(), 0);
    }

    private static void counts(String told, CoachCourt c, int... due) {
        for (int what = 0; what < 6; what++) {
            Due.due(told + ": count(" + what + ")", c.count(what), due[what]);
        }
    }

    private static void count() {
        Sentence.of(39, "How many: 0 MILES with MUD, 1 SEEN, 2 IMAGES, 3 bytes on THE TAPE, 4 CELLS of SHEET 0 (NONE: nothing), 5 all WIND.");
        counts("the least", new CoachCourt(), 0, 0, 0, 0, -4, 0);
        CoachCourt c = Due.told("mile0 0;".repeat(8) + "lame99 1 1 0;".repeat(4) + "mud0;mud1;mud2;mud3;mud4;mud5;mud6;mud7;");
        for (int i = 0; i < 6; i++) {
            c.see(0, i);
        }
        c.keep(0);
        c.keep(1);
        c.sheet(0, 2, 40);
        Due.feed(c, " ".repeat(160));
        counts("the most", c, 8, 6, 2, 160, 40, 396);
        c.sheet(1, 0, 7);
        c.pave(3, 2, 0);
        c.forget(2);
        c.end(7);
        c.sheet(0, 1, 0);
        c.alter(2, 1, 0);
        counts("some", c, 7, 2, 2, 7, 0, 297);
        Sentence.of(39, "BAD.");
        Twins.bad("count", (x, a) -> x.count(a[0]), new int[] {0}, 0, -1, 6);
    }
}
