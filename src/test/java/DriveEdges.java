/** '2 A DRIVE', what is SEEN, the SHEETS; promises 15 to 17. */
final class DriveEdges {
    private static final String FLAT = "mile 0 0;mile 0 0;mile 0 0;";
    private static final String HILLY = "mile 0 0;mile 0 1;mile 0 0;";

    private DriveEdges() { }

    static void ask() {
        snow();
        whoRuns();
        whatStopsOne();
        whoIsHeard();
        seenAndSheets();
        fate();
        beside();
        sum();
    }

    private static void snow() {
        Sentence.of(Sentence.TERMS, "======== 2 A DRIVE: MILE by MILE from 0 on");
        DriveTest.beside("from 0 on", Due.told(FLAT + "plain 99 20 0 0;plain 99 20 0 1;plain 99 20 0 2;"), 1, 3, 7);
        Sentence.of(Sentence.TERMS, "a MILE that would begin at a minute of SNOW or later is not driven, nor any behind it");
        CoachCourt c = Due.told(HILLY + "plain 99 20 0 0;plain 99 1 0 2;");
        int[][] due = {{1, 1, 0, 0}, {2, 1, 0, 0}, {3, 1, 1, 0}, {5, 1, 1, 0}, {6, 1, 1, 0}, {7, 1, 1, 3}, {8, 1, 1, 3}};
        for (int[] d : due) {
            c.set(3, d[0]);
            DriveTest.beside("SNOW " + d[0], c, d[1], d[2], d[3]);
        }
        c.set(3, 6);
        DriveTest.fate("who stands where nobody drives", c, 1, -4, -4, 0, 99);
        DriveTest.fate("who ran as far as it went", c, 0, -4, -4, 5, 92);
        Sentence.of(Sentence.TERMS, "(MILE 0 begins at minute 0, each at the end of the one ahead).");
        c.set(3, 0);
        DriveTest.beside("SNOW 0", c, 0, 0, 0);
        Due.due("SNOW 0: driven", c.rule(5), 0);
        c.set(3, 1);
        Due.due("SNOW 1: driven", c.rule(5), 1);
        c.pave(0, 2, 1);
        c.set(3, 5);
        Due.due("SNOW at the end of MUD", c.rule(5), 1);
        c.set(3, 6);
        Due.due("SNOW behind the end of MUD", c.rule(5), 2);
    }

    private static void whoRuns() {
        Sentence.of(Sentence.TERMS, "In each, PARTIES by order: who STANDS there, or ran beside in the MILE ahead and is not heard yet, RUNS");
        CoachCourt c = Due.told(FLAT + "plain 99 2 0 0;plain 99 1 0 1;plain 3 9 0 0;plain 99 9 0 2;");
        DriveTest.beside("who runs", c, 5, 3, 8);
        CoachCourt d = Due.told(FLAT + "plain 99 1 0 1;plain 99 9 0 0;room 1;");
        DriveTest.beside("by order, whoever ran already", d, 2, 1, 0);
    }

    private static void whatStopsOne() {
        Sentence.of(Sentence.TERMS, "if there is ROOM (fewer than ROOM run already in it)");
        CoachCourt c = Due.told("mile 0 0;plain 9 1 0 0;plain 9 1 0 0;plain 9 1 0 0;plain 9 1 0 0;");
        int[] due = {1, 3, 7, 15};
        for (int room = 1; room <= 4; room++) {
            c.set(2, room);
            Due.due("beside(0) by ROOM " + room, c.beside(0), due[room - 1]);
            Due.due("who falls by ROOM " + room, c.sum(4), 15 - due[room - 1]);
        }
        c.set(2, 1);
        c.alter(0, 1, 1);
        Due.due("who falls out takes no ROOM", c.beside(0), 2);
        Sentence.of(Sentence.TERMS, "WIND left is no less than STRAIN");
        CoachCourt w = Due.told("mile 0 1;mile 0 1;plain 5 9 0 0;");
        DriveTest.beside("WIND of one MILE", w, 1, 0);
        w.alter(0, 1, 4);
        DriveTest.beside("WIND below STRAIN", w, 0, 0);
        w.alter(0, 1, 9);
        DriveTest.beside("WIND left below STRAIN", w, 1, 0);
        w.alter(0, 1, 10);
        DriveTest.beside("WIND left as STRAIN is", w, 1, 1);
        Sentence.of(Sentence.TERMS, "and, being counsel who ran, LAND is that of the MILE ahead");
        CoachCourt b = Due.told("mile 0 0;mile 1 0;mile 1 0;counsel 99 9 1 0;counsel 99 9 1 1;plain 99 9 1 0;");
        DriveTest.beside("a border behind MILE 0", b, 5, 6, 6);
        b.pave(0, 0, 1);
        DriveTest.beside("no border", b, 5, 7, 7);
        Sentence.of(Sentence.TERMS, "else it FALLS out there.");
        b.pave(0, 0, 0);
        DriveTest.fate("at a border", b, 0, -4, 1, 0, 97);
        w.alter(0, 1, 9);
        DriveTest.fate("for want of WIND", w, 0, -4, 1, 4, 4);
        c.alter(0, 1, 9);
        DriveTest.fate("for want of ROOM", c, 1, -4, 0, 0, 9);
    }

    private static void whoIsHeard() {
        Sentence.of(Sentence.TERMS, "Who RUNS has STRAIN less WIND left");
        CoachCourt c = Due.told(HILLY + "plain 9 20 0 0;rider 4 20 0 0;lame 18 20 0 0;");
        DriveTest.fate("plain", c, 0, -4, -4, 6, 0);
        DriveTest.fate("rider", c, 1, -4, -4, 6, 0);
        DriveTest.fate("lame", c, 2, -4, -4, 6, 0);
        Sentence.of(Sentence.TERMS, "is LAND its LAW, it has been heard for HEARING more minutes");
        CoachCourt d = Due.told("mile 0 3;mile 1 0;mile 0 0;mile 1 2;plain 99 20 0 0;plain 99 20 1 0;plain 99 20 2 0;");
        Due.due("LAW 0", d.fate(0, 2), 9);
        Due.due("LAW 1", d.fate(1, 2), 7);
        Due.due("LAW 2", d.fate(2, 2), 0);
        Sentence.of(Sentence.TERMS, "is that NEED or more, there is a VERDICT in that MILE, and it runs no more.");
        int[][] due = {{7, 0, 8, 1}, {8, 0, 8, 1}, {9, 2, 9, 7}, {10, -4, 9, 15}};
        for (int[] a : due) {
            d.alter(0, 2, a[0]);
            Due.due("VERDICT by NEED " + a[0], d.fate(0, 0), a[1]);
            Due.due("heard by NEED " + a[0], d.fate(0, 2), a[2]);
            int ran = 0;
            for (int m = 0; m < 4; m++) {
                ran |= (d.beside(m) & 1) << m;
            }
            Due.due("MILES by NEED " + a[0], ran, a[3]);
        }
    }

    private static void seenAndSheets() {
        Sentence.of(Sentence.TERMS, "SEEN (6)");
        CoachCourt c = Due.told("mile 0 0;plain 9 1 0 0;plain 9 1 1 0;");
        for (int i = 1; i <= 6; i++) {
            Due.due("SEEN " + i, c.see(0, 0), i);
        }
        Due.due("SEEN 7", c.see(0, 0), -3);
        Sentence.of(Sentence.TERMS, "THE DRIVE has a VERDICT of a PARTY in a MILE, or has none of it.");
        c.forget(1);
        c.see(1, -4);
        Due.due("both are so", c.turned(), 256);
        c.see(0, -4);
        Due.due("it has one", c.turned(), 0);
        c.forget(2);
        c.see(1, 0);
        Due.due("it has none", c.turned(), 0);
        Sentence.of(Sentence.TERMS, "SHEETS 0 to 3 are rows of BYTES (lane 0), SHORTS (1), INTS (2)");
        for (int k = 0; k < 4; k++) {
            for (int lane = 0; lane < 3; lane++) {
                Due.due("SHEET " + k + " of lane " + lane, c.sheet(k, lane, 2), 1);
                Due.due("SHEET " + k + " read as of lane " + lane, c.read(k, lane, 0, 1), 1);
            }
        }
        Sentence.of(Sentence.TERMS, "with 0 to 40 CELLS, or nothing (at first).");
        Due.due("nothing", new CoachCourt().count(4), -4);
        Due.due("0 CELLS", c.sheet(0, 0, 0), 1);
        Due.due("0 CELLS are there", c.count(4), 0);
        Due.due("40 CELLS", c.sheet(0, 0, 40), 1);
        Due.due("40 CELLS are there", c.count(4), 40);
        Due.due("41 CELLS", c.sheet(0, 0, 41), -1);
        Sentence.of(Sentence.TERMS, "A FAULT is what the machine finds: 1 NULL (nothing), 2 INDEX, 3 CAST (another lane), 4 SIZE (below 0).");
        Due.due("NULL", new CoachCourt().lay(0, 0, 0), -11);
        Due.due("INDEX", c.lay(0, 40, 0), -12);
        Due.due("SIZE", c.sheet(0, 0, -1), -14);
        c.read(0, 1, 0, 1);
        Due.due("CAST", c.torn(), 3);
    }

    private static void fate() {
        String far = "mile 1 0;mile 1 0;mile 1 0;mile 1 0;mile 1 0;mile 1 0;mile 1 0;mile 0 3;";
        Sentence.of(15, "By THE DRIVE: the MILE in which a PARTY has a VERDICT (what 0; NONE)");
        CoachCourt c = Due.told(far + "plain 99 1 1 0;plain 99 8 0 0;plain 99 9 0 0;plain 99 1 3 7;");
        int[] verdicts = {0, 7, -4, -4};
        for (int p = 0; p < 4; p++) {
            Due.due("VERDICT of " + p, c.fate(p, 0), verdicts[p]);
        }
        Sentence.of(15, "in which it FALLS out (1; NONE: it does not)");
        CoachCourt d = Due.told(far + "plain 1 1 0 0;plain 24 1 0 0;plain 99 1 1 0;plain 99 1 2 0;");
        int[] falls = {0, 7, -4, -4};
        for (int p = 0; p < 4; p++) {
            Due.due("fall of " + p, d.fate(p, 1), falls[p]);
        }
        Sentence.of(15, "for how many minutes it has been heard (2)");
        Due.due("heard for more than it needs", Due.told("mile 0 3;mud 0;plain 99 1 0 0;").fate(0, 2), 11);
        Due.due("heard for 0", d.fate(0, 2), 0);
        Due.due("heard until it fell", Due.told("mile 0 0;mile 0 3;plain 12 9 0 0;").fate(0, 2), 1);
        Sentence.of(15, "WIND left in the end (3).");
        Due.due("none left", Due.told("mile 0 0;plain 2 1 0 0;").fate(0, 3), 0);
        Due.due("all left, it fell at its stone", d.fate(0, 3), 1);
        Due.due("left as it fell", d.fate(1, 3), 10);
        Due.due("left at the road's end", d.fate(3, 3), 99 - 14 - 11);
        Sentence.of(15, "BAD.");
        Twins.bad("fate", (x, a) -> x.fate(a[0], a[1]), new int[] {0, 0}, 0, -1, 4);
        Twins.bad("fate", (x, a) -> x.fate(a[0], a[1]), new int[] {0, 0}, 1, -1, 4);
        Due.due("fate(0, 0) of nobody", Due.told(far).fate(0, 0), -1);
        Due.due("fate(0, 0) of no road", new CoachCourt().fate(0, 0), -1);
    }

    private static void beside() {
        Sentence.of(16, "PARTIES that RUN in a MILE (bits).");
        CoachCourt c = Due.told("mile 0 0;mile 0 0;mile 1 0;plain 9 2 0 0;plain 9 2 0 0;plain 9 2 0 0;plain 9 2 0 0;");
        DriveTest.beside("all, or nobody", c, 15, 15, 0);
        c.alter(1, 1, 1);
        c.alter(2, 2, 1);
        c.stand(3, 2);
        DriveTest.beside("who falls does not run, who is heard does", c, 5, 1, 8);
        c.set(3, 4);
        DriveTest.beside("a MILE that is not driven", c, 5, 1, 0);
        Due.tell(c, "mile 0 0;mile 0 0;");
        DriveTest.beside("nobody any more", c, 0, 0);
        Sentence.of(16, "BAD.");
        Twins.bad("beside", (x, a) -> x.beside(a[0]), new int[] {0}, 0, -1, 5, 8);
        Due.due("beside(0) of no road", new CoachCourt().beside(0), -1);
        Due.due("beside(7) of 8", Due.told(RoadEdges.EIGHT).beside(7), 0);
        Due.due("beside(8) of 8", Due.told(RoadEdges.EIGHT).beside(8), -1);
    }

    private static void sums(CoachCourt c, String told, int... due) {
        for (int what = 0; what < 5; what++) {
            Due.due(told + ": sum(" + what + ")", c.sum(what), due[what]);
        }
    }

    private static void sum() {
        Sentence.of(17, "By THE DRIVE: how many VERDICTS (what 0), of whom (1; bits)");
        CoachCourt c = Due.told(FLAT + "plain 9 1 0 0;plain 9 1 0 1;plain 9 2 0 1;plain 9 1 0 0;");
        sums(c, "all", 4, 15, 2, 5, 0);
        c.alter(0, 3, 3);
        c.alter(2, 3, 3);
        Due.due("two", c.sum(0), 2);
        Due.due("of 1 and 3", c.sum(1), 10);
        Sentence.of(17, "the MILE of the last one (2; NONE)");
        Due.due("of PARTY 1", c.sum(2), 1);
        c.alter(0, 3, 0);
        c.stand(0, 2);
        Due.due("of PARTY 0", c.sum(2), 2);
        c.stand(0, 0);
        c.stand(1, 0);
        Due.due("MILE 0", c.sum(2), 0);
        sums(new CoachCourt(), "no road", 0, 0, -4, 0, 0);
        sums(Due.told(FLAT), "nobody", 0, 0, -4, 0, 0);
        Sentence.of(17, "minutes for which all have been heard (3)");
        sums(Due.told(FLAT + "plain 99 20 0 0;plain 5 2 0 0;plain 3 2 0 0;"), "heard or not", 1, 2, 1, 6, 4);
        Sentence.of(17, "who FALLS out (4; bits).");
        sums(Due.told(FLAT + "plain 1 1 0 0;plain 1 1 0 1;plain 1 1 0 2;plain 1 1 0 0;"), "all fall", 0, 0, -4, 0, 15);
        Sentence.of(17, "BAD.");
        Twins.bad("sum", (x, a) -> x.sum(a[0]), new int[] {0}, 0, -1, 5);
    }
}
