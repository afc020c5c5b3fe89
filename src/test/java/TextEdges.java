/** Promises 1 to 9: a new object, THE TAPE, its text, what is asked of THE ROAD. */
final class TextEdges {
    private TextEdges() { }

    static void ask() {
        newObject();
        feed();
        end();
        text();
        fault();
        rule();
        mile();
        party();
        strain();
    }

    private static void newObject() {
        Sentence.of(1, "No road, nobody");
        Twins.busy();
        CoachCourt c = new CoachCourt();
        int[] rules = {0, 0, 4, 99, 0, 0};
        int[] counts = {0, 0, 0, 0, -4, 0};
        for (int what = 0; what < 6; what++) {
            Due.due("new: rule(" + what + ")", c.rule(what), rules[what]);
            Due.due("new: count(" + what + ")", c.count(what), counts[what]);
        }
        Due.due("new: mile(0, 0)", c.mile(0, 0), -1);
        Due.due("new: party(0, 0)", c.party(0, 0), -1);
        Due.due("new: fault()", c.fault(), 0);
        Due.due("new: torn()", c.torn(), 0);
        Due.due("new: keep(0)", c.keep(0), 0);
        Due.due("new: keep(1)", c.keep(1), 0);
        Sentence.of(1, "SHEETS of nothing.");
        for (int k = 0; k < 4; k++) {
            Due.due("new: lay(" + k + ", 0, 0)", c.lay(k, 0, 0), -11);
            Due.due("new: read(" + k + ", 0, 0, 1)", c.read(k, 0, 0, 1), 0);
            Due.due("new: torn() of " + k, c.torn(), 1);
        }
    }

    private static void feed() {
        Sentence.of(2, "A byte (0 to 127) comes behind THE TAPE: how many it has.");
        CoachCourt c = new CoachCourt();
        for (int b = 0; b < 128; b++) {
            Due.due("feed(" + b + ")", c.feed(b), b + 1);
        }
        Due.due("a byte 0 ahead of all", c.text(), -10);
        Due.due("feed('m') of an empty one", c.feed('m'), 1);
        Due.feed(c, "ud 0;");
        Due.due("bytes by order", c.text(), -10 - 6);
        Sentence.of(2, "BAD");
        Twins.bad("feed", (x, a) -> x.feed(a[0]), new int[] {0}, 0, -1, 128, 256 + 'm', -4);
        Sentence.of(2, "FULL: more than 160.");
        CoachCourt f = new CoachCourt();
        Due.feed(f, "mile 1 2;" + " ".repeat(150));
        Due.due("byte 160", f.feed(32), 160);
        Due.due("byte 161", f.feed('?'), -3);
        Due.due("byte 161 once more", f.feed('?'), -3);
        Due.due("160 bytes are there", f.count(3), 160);
        f.end(159);
        Due.due("byte 160 again", f.feed(';'), 160);
        f.end(159);
        Due.due("a text of those that came", f.text(), 1);
        Due.due("an empty tape then", f.feed(32), 1);
    }

    private static void end() {
        Sentence.of(3, "THE TAPE keeps its first n bytes: how many it had.");
        CoachCourt c = new CoachCourt();
        Due.due("end(0) of an empty one", c.end(0), 0);
        Due.feed(c, "mile 1 2;mile 3 3;");
        Due.due("end(18): all", c.end(18), 18);
        Due.due("end(9): the first", c.end(9), 18);
        Due.due("end(9): all", c.end(9), 9);
        Due.due("count(3)", c.count(3), 9);
        Due.feed(c, "mud 0;");
        Due.due("what came behind", c.text(), 2);
        Due.due("LAND of the first line", c.mile(0, 0), 1);
        Due.due("MUD of the second", c.mile(0, 2), 1);
        Due.feed(c, "mile?");
        Due.due("end(0): none", c.end(0), 5);
        Due.due("a text of none", c.text(), 0);
        Due.feed(c, " ".repeat(160));
        Due.due("end(160) of 160", c.end(160), 160);
        Due.due("end(159) of 160", c.end(159), 160);
        Sentence.of(3, "BAD.");
        Twins.bad("end", (x, a) -> x.end(a[0]), new int[] {0}, 0, -1, 19, 160);
        Due.due("end(1) of an empty one", new CoachCourt().end(1), -1);
        Due.due("end(161) of 160", TermsEdges.fullTape().end(161), -1);
    }

    private static void text() {
        Sentence.of(4, "THE TAPE (empty then) tells all: how many lines");
        CoachCourt c = Due.told("mile 0 0;plain 9 1 0 0;");
        Due.due("THE TAPE behind a text that is taken", c.count(3), 0);
        Due.due("no bytes, no lines", c.text(), 0);
        Due.due("no MILES then", c.rule(0), 0);
        Due.due("no PARTIES then", c.rule(1), 0);
        Due.due("two lines", Due.tell(c, "room 1;snow 2;"), 2);
        Due.due("no bytes, no lines", c.text(), 0);
        Due.due("ROOM as at first", c.rule(2), 4);
        Due.due("SNOW as at first", c.rule(3), 99);
        Sentence.of(4, "-10 less the place of its FAULT");
        Due.due("place 0", Due.tell(c, "x"), -10);
        Due.due("THE TAPE behind a FAULT", c.count(3), 0);
        Due.due("place 1", Due.tell(c, " x"), -11);
        Due.due("place 159", Due.tell(c, " ".repeat(159) + "x"), -169);
        Due.due("place 160", Due.tell(c, " ".repeat(157) + "mud"), -170);
        Sentence.of(4, "that which was told stays.");
        Twins.alike("a FAULT behind lines that are right", () -> {
            CoachCourt x = Twins.busy();
            x.end(0);
            Due.tell(x, "mile 3 3;mile 3 3;mud 1;room 1;snow 1;plain 1 1 1 1;x");
            return x;
        }, () -> {
            CoachCourt x = Twins.busy();
            x.end(0);
            return x;
        });
    }

    private static void fault() {
        Sentence.of(5, "The FAULT of the latest text(); 0.");
        CoachCourt c = new CoachCourt();
        Due.due("no text yet", c.fault(), 0);
        String[] texts = {"?", "x", "mile 4", "room 1;room", "mile 0 0;".repeat(9), "mud 0;"};
        for (int i = 0; i < 6; i++) {
            Due.tell(c, texts[i]);
            Due.due("FAULT of '" + texts[i] + "'", c.fault(), i + 1);
            Due.feed(c, "?");
            Due.due("no text yet again", c.fault(), i + 1);
            c.end(0);
        }
        c.keep(0);
        c.back(0);
        c.sheet(0, 0, -1);
        Due.due("no other call has a say", c.fault(), 6);
        Due.tell(c, "mile 0 0;");
        Due.due("a text that is taken", c.fault(), 0);
        Due.tell(c, "?");
        c.text();
        Due.due("a text of nothing", c.fault(), 0);
    }

    private static void rule() {
        Sentence.of(6, "0 MILES, 1 PARTIES, 2 ROOM, 3 SNOW, 4 MINUTES of all MILES, 5 MILES that are driven.");
        String muds = "mud0;mud1;mud2;mud3;mud4;mud5;mud6;mud7;";
        CoachCourt c = Due.told("mile0 3;".repeat(8) + muds + "lame1 1 1 0;".repeat(4) + "room1;");
        int[] due = {8, 4, 1, 99, 88, 8};
        for (int what = 0; what < 6; what++) {
            Due.due("the most: rule(" + what + ")", c.rule(what), due[what]);
        }
        for (int m = 1; m < 8; m++) {
            c.set(3, 11 * m);
            Due.due("driven by SNOW where a MILE begins, " + m, c.rule(5), m);
            c.set(3, 11 * m + 1);
            Due.due("driven by SNOW a minute later, " + m, c.rule(5), m + 1);
        }
        c.set(3, 0);
        Due.due("driven by SNOW 0", c.rule(5), 0);
        Due.due("MINUTES of all, driven or not", c.rule(4), 88);
        Sentence.of(6, "BAD.");
        Twins.bad("rule", (x, a) -> x.rule(a[0]), new int[] {0}, 0, -1, 6);
    }

    private static void mile() {
        Sentence.of(7, "Of a MILE: 0 LAND, 1 HILL, 2 whether there is MUD (1, 0), 3 MINUTES, 4 HEARING.");
        CoachCourt c = Due.told(RoadEdges.EIGHT + "mud 7;");
        int[][] due = {{0, 1, 0, 4, 4}, {3, 0, 0, 2, 1}, {3, 1, 1, 7, 7}};
        int[] miles = {0, 3, 7};
        for (int i = 0; i < 3; i++) {
            for (int what = 0; what < 5; what++) {
                Due.due("mile(" + miles[i] + ", " + what + ")", c.mile(miles[i], what), due[i][what]);
            }
        }
        Sentence.of(7, "BAD.");
        Twins.bad("mile", (x, a) -> x.mile(a[0], a[1]), new int[] {0, 0}, 0, -1, 5, 7, 8);
        Twins.bad("mile", (x, a) -> x.mile(a[0], a[1]), new int[] {0, 0}, 1, -1, 5);
        Due.due("mile(8, 0) of 8", c.mile(8, 0), -1);
        Due.due("mile(0, 0) of none", new CoachCourt().mile(0, 0), -1);
    }

    private static void party() {
        Sentence.of(8, "Of a PARTY: 0 KIND, 1 WIND, 2 NEED, 3 LAW, 4 STANDS.");
        CoachCourt c = Due.told(RoadEdges.EIGHT + "plain 0 1 0 0;counsel 99 20 3 7;");
        int[][] due = {{0, 0, 1, 0, 0}, {3, 99, 20, 3, 7}};
        for (int what = 0; what < 5; what++) {
            Due.due("the least: party(0, " + what + ")", c.party(0, what), due[0][what]);
            Due.due("the most: party(1, " + what + ")", c.party(1, what), due[1][what]);
        }
        Sentence.of(8, "BAD.");
        Twins.bad("party", (x, a) -> x.party(a[0], a[1]), new int[] {0, 0}, 0, -1, 4);
        Twins.bad("party", (x, a) -> x.party(a[0], a[1]), new int[] {0, 0}, 1, -1, 5);
        Due.due("party(2, 0) of 2", c.party(2, 0), -1);
        Due.due("party(0, 0) of none", Due.told("mile 0 0;").party(0, 0), -1);
    }

    private static void strain() {
        Sentence.of(9, "STRAIN of a PARTY in a MILE.");
        CoachCourt c = Due.told("mile 0 0;mile 0 3;mud 1;plain 1 1 0 0;rider 1 1 0 0;lame 1 1 0 0;counsel 1 1 0 0;");
        int[][] due = {{2, 14}, {1, 7}, {4, 28}, {2, 14}};
        for (int p = 0; p < 4; p++) {
            Due.due("the least STRAIN of " + p, c.strain(p, 0), due[p][0]);
            Due.due("the most STRAIN of " + p, c.strain(p, 1), due[p][1]);
        }
        Due.due("WIND, and where it STANDS, have no say", c.strain(2, 1), 28);
        Sentence.of(9, "BAD.");
        Twins.bad("strain", (x, a) -> x.strain(a[0], a[1]), new int[] {0, 0}, 0, -1, 4);
        Twins.bad("strain", (x, a) -> x.strain(a[0], a[1]), new int[] {0, 0}, 1, -1, 5, 7, 8);
        Due.due("strain(0, 0) of nobody", Due.told("mile 0 0;").strain(0, 0), -1);
        Due.due("strain(0, 0) of none", new CoachCourt().strain(0, 0), -1);
    }
}
