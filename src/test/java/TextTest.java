/** Promises 1 to 9: a new object, THE TAPE, its text and FAULTS, what is asked of THE ROAD. */
public final class TextTest {
    public static void main(String[] args) {
        newObject();
        feed();
        end();
        textTaken();
        textInPlaceOfAll();
        tokens();
        fault1();
        fault2();
        fault3();
        fault4();
        fault5();
        fault6();
        firstFaultMet();
        rule();
        mile();
        party();
        strain();
        Due.close("TextTest");
    }

    private static void newObject() {
        CoachCourt c = new CoachCourt();
        int[] rules = {0, 0, 4, 99, 0, 0};
        int[] counts = {0, 0, 0, 0, -4, 0};
        int[] sums = {0, 0, -4, 0, 0};
        for (int i = 0; i < 6; i++) {
            Due.due("new: rule(" + i + ")", c.rule(i), rules[i]);
            Due.due("new: count(" + i + ")", c.count(i), counts[i]);
        }
        for (int i = 0; i < 5; i++) {
            Due.due("new: sum(" + i + ")", c.sum(i), sums[i]);
            Due.due("new: mile(0, " + i + ")", c.mile(0, i), -1);
            Due.due("new: party(0, " + i + ")", c.party(0, i), -1);
        }
        Due.due("new: fault()", c.fault(), 0);
        Due.due("new: torn()", c.torn(), 0);
        Due.due("new: strain(0, 0)", c.strain(0, 0), -1);
        Due.due("new: beside(0)", c.beside(0), -1);
        Due.due("new: never()", c.never(), 0);
        Due.due("new: room()", c.room(), 1);
        Due.due("new: snow()", c.snow(), 0);
        Due.due("new: turned()", c.turned(), 256);
        Due.due("new: back(0)", c.back(0), -2);
        Due.due("new: back(1)", c.back(1), -2);
        for (int k = 0; k < 4; k++) {
            Due.due("new: lay(" + k + ", 0, 0)", c.lay(k, 0, 0), -11);
        }
    }

    private static void feed() {
        CoachCourt c = new CoachCourt();
        Due.due("feed(-1)", c.feed(-1), -1);
        Due.due("feed(128)", c.feed(128), -1);
        Due.due("feed(0)", c.feed(0), 1);
        Due.due("feed(127)", c.feed(127), 2);
        for (int n = 3; n <= 160; n++) {
            Due.due("feed(32) of " + n, c.feed(32), n);
        }
        Due.due("feed(32) beyond 160", c.feed(32), -3);
        Due.due("feed(128) beyond 160", c.feed(128), -1);
        Due.due("count(3) of 160", c.count(3), 160);
    }

    private static void end() {
        CoachCourt c = new CoachCourt();
        Due.due("end(0) of nothing", c.end(0), 0);
        Due.due("end(1) of nothing", c.end(1), -1);
        Due.feed(c, "mile 0 1;mile");
        Due.due("end(-1)", c.end(-1), -1);
        Due.due("end(14)", c.end(14), -1);
        Due.due("end(13)", c.end(13), 13);
        Due.due("end(9)", c.end(9), 13);
        Due.due("count(3) behind end(9)", c.count(3), 9);
        Due.due("text() of what is kept", c.text(), 1);
        Due.due("rule(0) of what is kept", c.rule(0), 1);
        Due.due("end(0) behind a text", c.end(0), 0);
    }

    private static void textTaken() {
        CoachCourt c = new CoachCourt();
        Due.due("text() of nothing", c.text(), 0);
        Due.due("fault() of nothing", c.fault(), 0);
        Due.due("lines", Due.tell(c, "mile 2 3;mile 1 0;mud 1;plain 10 1 0 0;rider 11 2 1 1;"
            + "lame 12 20 2 0;counsel 99 3 3 1;room 1;snow 0;"), 9);
        int[][] miles = {{2, 3, 0}, {1, 0, 1}};
        int[][] parties = {{0, 10, 1, 0, 0}, {1, 11, 2, 1, 1}, {2, 12, 20, 2, 0}, {3, 99, 3, 3, 1}};
        for (int m = 0; m < 2; m++) {
            for (int what = 0; what < 3; what++) {
                Due.due("mile(" + m + ", " + what + ")", c.mile(m, what), miles[m][what]);
            }
        }
        for (int p = 0; p < 4; p++) {
            for (int what = 0; what < 5; what++) {
                Due.due("party(" + p + ", " + what + ")", c.party(p, what), parties[p][what]);
            }
        }
        Due.due("ROOM told", c.rule(2), 1);
        Due.due("SNOW told", c.rule(3), 0);
        Due.due("THE TAPE behind it", c.count(3), 0);
        Due.due("8 miles, 4 parties", Due.tell(new CoachCourt(),
            "mile 0 0;mile 0 0;mile 0 0;mile 0 0;mile 0 0;mile 0 0;mile 0 0;mile 0 0;"
            + "plain 1 1 1 7;lame 1 1 1 7;rider 1 1 1 7;plain 0 1 1 0;mud 7;"), 13);
    }

    private static void textInPlaceOfAll() {
        CoachCourt c = Due.told("mile 1 1;mile 2 0;mud 0;room 2;snow 7;plain 9 9 1 1;");
        c.see(0, 1);
        c.keep(0);
        c.keep(1);
        c.sheet(0, 1, 6);
        Due.due("a text with a fault", Due.tell(c, "mile 0;"), -16);
        Due.due("SEEN behind a fault", c.count(1), 1);
        Due.due("IMAGES behind a fault", c.count(2), 2);
        Due.due("ROOM behind a fault", c.rule(2), 2);
        Due.due("SNOW behind a fault", c.rule(3), 7);
        Due.due("MUD behind a fault", c.count(0), 1);
        Due.due("fault()", c.fault(), 2);
        Due.due("a text that is taken", Due.tell(c, "mile 3 2;"), 1);
        Due.due("fault() then", c.fault(), 0);
        Due.due("MILES then", c.rule(0), 1);
        Due.due("PARTIES then", c.rule(1), 0);
        Due.due("ROOM then", c.rule(2), 4);
        Due.due("SNOW then", c.rule(3), 99);
        Due.due("MUD then", c.mile(0, 2), 0);
        Due.due("SEEN then", c.count(1), 0);
        Due.due("IMAGES then", c.count(2), 0);
        Due.due("back(0) then", c.back(0), -2);
        Due.due("back(1) then", c.back(1), -2);
        Due.due("SHEET 0 then", c.count(4), 6);
        Due.due("a text of nothing", c.text(), 0);
        Due.due("MILES of nothing", c.rule(0), 0);
    }

    private static void tokens() {
        CoachCourt c = new CoachCourt();
        Due.due("no blanks that need not be", Due.tell(c, "mile0 1;mud0;plain7 5 0 0;"), 3);
        Due.due("WIND 7", c.party(0, 1), 7);
        Due.due("many blanks", Due.tell(c, "  mile  03   02  ;   room   04;  "), 2);
        Due.due("LAND 03", c.mile(0, 0), 3);
        Due.due("HILL 02", c.mile(0, 1), 2);
        Due.due("blanks alone", Due.tell(c, "   "), 0);
        Due.due("mud ahead of its mile", Due.tell(c, "mud 1;plain 0 1 0 1;mile 0 0;mile 0 0;"), 4);
        Due.due("MUD of mile 1", c.mile(1, 2), 1);
        Due.due("MUD of mile 0", c.mile(0, 2), 0);
    }

    private static void fault1() {
        Due.faulty("?", 0, 1);
        Due.faulty("Mile 0 0;", 0, 1);
        Due.faulty("mile 0 0;\tmile 0 0;", 9, 1);
        Due.faulty("mile 0 -1;", 7, 1);
        Due.faulty("mile 0 0:", 8, 1);
        Due.faulty("mile 100 0;", 5, 1);
        Due.faulty("mile 0 000;", 7, 1);
        Due.faulty("mile 0 1234567890123;", 7, 1);
        Due.faulty("  123", 2, 1);
        Due.faulty("mile 0 0 ;{", 10, 1);
        Due.faulty("mile 0 0`", 8, 1);
        Due.faulty("mile 0/0;", 6, 1);
    }

    private static void fault2() {
        Due.faulty("road 0 0;", 0, 2);
        Due.faulty("miles 0 0;", 0, 2);
        Due.faulty("mil 0 0;", 0, 2);
        Due.faulty("mile 0 0;m 0;", 9, 2);
        Due.faulty(";", 0, 2);
        Due.faulty("mile 0 0;;", 9, 2);
        Due.faulty("12", 0, 2);
        Due.faulty("mile ;", 5, 2);
        Due.faulty("mile mile", 5, 2);
        Due.faulty("mile 0 0 0;", 9, 2);
        Due.faulty("mile 0 0 mile 0 0;", 9, 2);
        Due.faulty("mile", 4, 2);
        Due.faulty("mile 0 0", 8, 2);
        Due.faulty("mile 0 0   ", 11, 2);
        Due.faulty("mile 0   ", 9, 2);
        Due.faulty("plain 1 1 1;", 11, 2);
        Due.faulty("mud ;", 4, 2);
        Due.faulty("room ;", 5, 2);
        Due.faulty("snow 1 1;", 7, 2);
        Due.faulty("plainrider 1 1 1 0;", 0, 2);
    }

    private static void fault3() {
        Due.faulty("mile 4 0;", 5, 3);
        Due.faulty("mile 0 4;", 7, 3);
        Due.faulty("mile 0 0;mud 8;", 13, 3);
        Due.faulty("mile 0 0;mud 10;", 13, 3);
        Due.faulty("mile 0 0;plain 1 0 0 0;", 17, 3);
        Due.faulty("mile 0 0;rider 1 21 0 0;", 17, 3);
        Due.faulty("mile 0 0;lame 1 20 4 0;", 19, 3);
        Due.faulty("mile 0 0;counsel 1 1 0 8;", 23, 3);
        Due.faulty("room 0;", 5, 3);
        Due.faulty("room 5;", 5, 3);
        CoachCourt c = new CoachCourt();
        Due.due("the highest numbers", Due.tell(c, "mile 3 3;plain 99 20 3 0;room 4;snow 99;"), 4);
        Due.due("the lowest numbers", Due.tell(c, "mile 0 0;plain 0 1 0 0;room 1;snow 0;mud 0;"), 5);
    }

    private static void fault4() {
        Due.faulty("room 1;room 2;", 7, 4);
        Due.faulty("room 1;room", 7, 4);
        Due.faulty("snow 1; snow 1;", 8, 4);
        Due.faulty("room 1;snow 1;room 1;", 14, 4);
        Due.faulty("mile 0 0;mud 0;mud 0;", 19, 4);
        Due.faulty("mile 0 0;mud 0;mud  00 ?", 20, 4);
        Due.faulty("mud 5;mud 5;", 10, 4);
        Due.faulty("mud 0;mud 7;mud 1;mud 7;", 22, 4);
        CoachCourt c = Due.told("room 1;snow 1;");
        Due.due("room, snow once more in another text", Due.tell(c, "room 2;snow 2;"), 2);
        Due.due("room, snow, once each", Due.tell(c, "snow 2;room 2;"), 2);
    }

    private static void fault5() {
        String eight = "mile 0 0;mile 0 0;mile 0 0;mile 0 0;mile 0 0;mile 0 0;mile 0 0;mile 0 0;";
        String four = "mile 0 0;plain 1 1 1 0;rider 1 1 1 0;lame 1 1 1 0;counsel 1 1 1 0;";
        Due.faulty(eight + "mile 0 0;", eight.length(), 5);
        Due.faulty(eight + " mile", eight.length() + 1, 5);
        Due.faulty(four + "plain 1 1 1 0;", four.length(), 5);
        Due.faulty(four + "rider", four.length(), 5);
        Due.faulty(four + "lame ?", four.length(), 5);
        Due.faulty(four + "counsel 0", four.length(), 5);
    }

    private static void fault6() {
        Due.faulty("mud 0;", 6, 6);
        Due.faulty("mile 0 0;mud 1;", 15, 6);
        Due.faulty("mile 0 0;mud 7;  ", 17, 6);
        Due.faulty("plain 1 1 1 0;", 14, 6);
        Due.faulty("mile 0 0;lame 1 1 1 1;", 22, 6);
        Due.faulty("mile 0 0;mile 0 0;plain 1 1 1 1;plain 1 1 1 2;", 46, 6);
    }

    private static void firstFaultMet() {
        Due.faulty("mud 7;mile 0 0;room 5;", 20, 3);
        Due.faulty("mile 4 ?;", 5, 3);
        Due.faulty("mile 4", 5, 3);
        Due.faulty("mile 0 4 4", 7, 3);
        Due.faulty("mile ; ?", 5, 2);
        Due.faulty("room 1;room ?", 7, 4);
        Due.faulty("mud 3;mud 9;", 10, 3);
        Due.faulty("mud 3;mud 3", 10, 4);
        Due.faulty("mud 3;mud 300;", 10, 1);
        Due.faulty("plain 1 1 1 7;mile 9 0;", 19, 3);
    }

    private static void rule() {
        CoachCourt c = Due.told("mile 0 0;mile 1 1;mile 2 2;mud 1;snow 9;room 3;plain 1 1 1 1;rider 1 1 1 1;");
        int[] due = {3, 2, 3, 9, 15, 2};
        for (int what = 0; what < 6; what++) {
            Due.due("rule(" + what + ")", c.rule(what), due[what]);
        }
        Due.due("rule(-1)", c.rule(-1), -1);
        Due.due("rule(6)", c.rule(6), -1);
        int[][] driven = {{0, 0}, {1, 1}, {2, 1}, {3, 2}, {9, 2}, {10, 3}, {99, 3}};
        for (int[] d : driven) {
            c.set(3, d[0]);
            Due.due("rule(5) by SNOW " + d[0], c.rule(5), d[1]);
            Due.due("rule(4) by SNOW " + d[0], c.rule(4), 15);
        }
    }

    private static void mile() {
        CoachCourt c = Due.told("mile 0 0;mile 1 0;mile 2 1;mile 3 3;mud 1;mud 3;");
        int[][] due = {{0, 0, 0, 2, 1}, {1, 0, 1, 5, 5}, {2, 1, 0, 4, 4}, {3, 3, 1, 11, 11}};
        for (int m = 0; m < 4; m++) {
            for (int what = 0; what < 5; what++) {
                Due.due("mile(" + m + ", " + what + ")", c.mile(m, what), due[m][what]);
            }
        }
        Due.due("mile(-1, 0)", c.mile(-1, 0), -1);
        Due.due("mile(4, 0)", c.mile(4, 0), -1);
        Due.due("mile(0, -1)", c.mile(0, -1), -1);
        Due.due("mile(0, 5)", c.mile(0, 5), -1);
    }

    private static void party() {
        CoachCourt c = Due.told("mile 0 0;mile 0 0;counsel 50 7 2 1;");
        int[] due = {3, 50, 7, 2, 1};
        for (int what = 0; what < 5; what++) {
            Due.due("party(0, " + what + ")", c.party(0, what), due[what]);
        }
        Due.due("party(-1, 0)", c.party(-1, 0), -1);
        Due.due("party(1, 0)", c.party(1, 0), -1);
        Due.due("party(0, -1)", c.party(0, -1), -1);
        Due.due("party(0, 5)", c.party(0, 5), -1);
    }

    private static void strain() {
        CoachCourt c = Due.told("mile 0 0;mile 0 1;mile 0 3;mud 1;plain 1 1 1 0;rider 1 1 1 0;lame 1 1 1 0;counsel 1 1 1 0;");
        int[][] due = {{2, 8, 11}, {1, 4, 5}, {4, 16, 22}, {2, 8, 11}};
        for (int p = 0; p < 4; p++) {
            for (int m = 0; m < 3; m++) {
                Due.due("strain(" + p + ", " + m + ")", c.strain(p, m), due[p][m]);
            }
        }
        Due.due("strain(-1, 0)", c.strain(-1, 0), -1);
        Due.due("strain(4, 0)", c.strain(4, 0), -1);
        Due.due("strain(0, -1)", c.strain(0, -1), -1);
        Due.due("strain(0, 3)", c.strain(0, 3), -1);
    }
}
