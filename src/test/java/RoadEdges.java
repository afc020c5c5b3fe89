/** '1 THE ROAD': bounds of all numbers, MINUTES, STRAIN, HEARING, THE TAPE, its TOKENS and FAULTS. */
final class RoadEdges {
    static final String EIGHT = "mile 0 1;mile 1 2;mile 2 3;mile 3 0;mile 0 2;mile 1 3;mile 2 0;mile 3 1;";
    static final String FOUR = "plain 1 2 3 0;rider 4 5 0 7;lame 6 7 1 3;counsel 8 9 2 1;";

    private RoadEdges() { }

    static void ask() {
        miles();
        landsAndHills();
        mudOrNot();
        parties();
        kinds();
        bounds();
        roomAndSnow();
        minutes();
        strains();
        hearing();
        tape();
        tokens();
        lines();
        whatLinesTell();
        firstMet();
        faults();
        noMileBehindAll();
        taken();
    }

    private static void miles() {
        Sentence.of(Sentence.TERMS, "======== 1 THE ROAD: MILES 0 on (8 at most, by order)");
        CoachCourt c = Due.told(EIGHT);
        Due.due("8 MILES", c.rule(0), 8);
        for (int m = 0; m < 8; m++) {
            Due.due("LAND by order, " + m, c.mile(m, 0), m % 4);
            Due.due("HILL by order, " + m, c.mile(m, 1), new int[] {1, 2, 3, 0, 2, 3, 0, 1}[m]);
        }
        Due.due("MILE 8", c.mile(8, 0), -1);
        Due.faulty(EIGHT + "mile 0 0;", 72, 5);
    }

    private static void landsAndHills() {
        Sentence.of(Sentence.TERMS, "each of a LAND (0 to 3), a HILL (0 to 3)");
        for (int v = 0; v <= 3; v++) {
            CoachCourt c = Due.told("mile " + v + " 0;mile 0 " + v + ";");
            Due.due("LAND " + v, c.mile(0, 0), v);
            Due.due("HILL " + v, c.mile(1, 1), v);
        }
        Due.faulty("mile 4 0;", 5, 3);
        Due.faulty("mile 0 4;", 7, 3);
        Due.faulty("mile 99 0;", 5, 3);
        Due.faulty("mile 0 99;", 7, 3);
    }

    private static void mudOrNot() {
        Sentence.of(Sentence.TERMS, "with MUD or not (not).");
        CoachCourt c = Due.told("mile 0 0;mile 0 0;mile 0 0;mud 1;");
        Due.due("MUD of MILE 0", c.mile(0, 2), 0);
        Due.due("MUD of MILE 1", c.mile(1, 2), 1);
        Due.due("MUD of MILE 2", c.mile(2, 2), 0);
        Due.tell(c, "mile 0 0;mile 0 0;");
        Due.due("MUD is not told again", c.mile(1, 2), 0);
    }

    private static void parties() {
        Sentence.of(Sentence.TERMS, "PARTIES 0 on (4 at most, by order)");
        CoachCourt c = Due.told(EIGHT + FOUR);
        Due.due("4 PARTIES", c.rule(1), 4);
        for (int p = 0; p < 4; p++) {
            Due.due("KIND by order, " + p, c.party(p, 0), p);
            Due.due("WIND by order, " + p, c.party(p, 1), new int[] {1, 4, 6, 8}[p]);
        }
        Due.due("PARTY 4", c.party(4, 0), -1);
        Due.faulty(EIGHT + FOUR + "plain 1 1 1 1;", EIGHT.length() + FOUR.length(), 5);
    }

    private static void kinds() {
        Sentence.of(Sentence.TERMS, "each of a KIND (0 plain, 1 rider, 2 lame, 3 counsel)");
        String[] kinds = {"plain", "rider", "lame", "counsel"};
        for (int kind = 0; kind < 4; kind++) {
            Due.due(kinds[kind], Due.told("mile 0 0;" + kinds[kind] + " 9 1 0 0;").party(0, 0), kind);
        }
    }

    /** One number of a party's line at a time, its bounds taken and what lies beyond them refused. */
    private static void bounds() {
        Sentence.of(Sentence.TERMS, "with WIND (0 to 99)");
        taken("mile 0 0;plain ", " 1 0 0;", 1, 0, 99);
        Due.faulty("mile 0 0;plain 100 1 0 0;", 15, 1);
        Sentence.of(Sentence.TERMS, "a NEED (1 to 20)");
        taken("mile 0 0;plain 9 ", " 0 0;", 2, 1, 20);
        Due.faulty("mile 0 0;plain 9 0 0 0;", 17, 3);
        Due.faulty("mile 0 0;plain 9 00 0 0;", 17, 3);
        Due.faulty("mile 0 0;plain 9 21 0 0;", 17, 3);
        Sentence.of(Sentence.TERMS, "a LAW (0 to 3)");
        taken("mile 0 0;plain 9 1 ", " 0;", 3, 0, 3);
        Due.faulty("mile 0 0;plain 9 1 4 0;", 19, 3);
        Sentence.of(Sentence.TERMS, "STANDS at the stone where a MILE begins.");
        taken(EIGHT + "plain 9 1 0 ", ";", 4, 0, 7);
        Due.faulty(EIGHT + "plain 9 1 0 8;", EIGHT.length() + 12, 3);
        CoachCourt c = Due.told("mile 0 0;mile 0 0;plain 9 1 0 1;");
        Due.due("not beside MILE 0", c.beside(0), 0);
        Due.due("beside MILE 1", c.beside(1), 1);
    }

    private static void taken(String ahead, String behind, int what, int low, int high) {
        for (int v = low; v <= high; v++) {
            CoachCourt c = Due.told(ahead + v + behind);
            Due.due(ahead + v + behind, c.party(0, what), v);
        }
    }

    private static void roomAndSnow() {
        Sentence.of(Sentence.TERMS, "ROOM (1 to 4; 4 at first)");
        Due.due("ROOM at first", new CoachCourt().rule(2), 4);
        Due.due("ROOM that is not told", Due.told("mile 0 0;").rule(2), 4);
        for (int v = 1; v <= 4; v++) {
            Due.due("ROOM " + v, Due.told("room " + v + ";").rule(2), v);
        }
        Due.faulty("room 0;", 5, 3);
        Due.faulty("room 5;", 5, 3);
        Sentence.of(Sentence.TERMS, "SNOW (0 to 99; 99 at first).");
        Due.due("SNOW at first", new CoachCourt().rule(3), 99);
        Due.due("SNOW that is not told", Due.told("mile 0 0;").rule(3), 99);
        Due.due("SNOW 0", Due.told("snow 0;").rule(3), 0);
        Due.due("SNOW 99", Due.told("snow 99;").rule(3), 99);
        Due.faulty("snow 100;", 5, 1);
    }

    private static CoachCourt hills() {
        return Due.told("mile 0 0;mile 0 1;mile 0 2;mile 0 3;mile 0 0;mile 0 1;mile 0 2;mile 0 3;mud 4;mud 5;mud 6;mud 7;"
            + "plain 1 1 0 0;rider 1 1 0 0;lame 1 1 0 0;");
    }

    private static void minutes() {
        Sentence.of(Sentence.TERMS, "MINUTES of a MILE: 2, twice HILL more, 3 more in MUD.");
        int[] due = {2, 4, 6, 8, 5, 7, 9, 11};
        CoachCourt c = hills();
        for (int m = 0; m < 8; m++) {
            Due.due("MINUTES of " + m, c.mile(m, 3), due[m]);
        }
    }

    private static void strains(CoachCourt c, int p, int... due) {
        for (int m = 0; m < 8; m++) {
            Due.due("STRAIN of " + p + " in " + m, c.strain(p, m), due[m]);
        }
    }

    private static void strains() {
        CoachCourt c = hills();
        Sentence.of(Sentence.TERMS, "STRAIN of a KIND in a MILE: plain, counsel: MINUTES and HILL");
        strains(c, 0, 2, 5, 8, 11, 5, 8, 11, 14);
        c.alter(0, 0, 3);
        strains(c, 0, 2, 5, 8, 11, 5, 8, 11, 14);
        Sentence.of(Sentence.TERMS, "rider: half of that (down)");
        strains(c, 1, 1, 2, 4, 5, 2, 4, 5, 7);
        Sentence.of(Sentence.TERMS, "lame: twice that of a plain one.");
        strains(c, 2, 4, 10, 16, 22, 10, 16, 22, 28);
    }

    private static void hearing() {
        Sentence.of(Sentence.TERMS, "HEARING of a MILE: MINUTES");
        int[] due = {1, 4, 6, 8, 5, 7, 9, 11};
        CoachCourt c = hills();
        for (int m = 1; m < 8; m++) {
            Due.due("HEARING of " + m, c.mile(m, 4), due[m]);
        }
        Sentence.of(Sentence.TERMS, "half of them (down), if HILL is 0 and there is no MUD: he dozes.");
        Due.due("HEARING, he dozes", c.mile(0, 4), 1);
        c.pave(0, 2, 1);
        Due.due("HEARING, MUD wakes him", c.mile(0, 4), 5);
        c.pave(0, 2, 0);
        c.pave(0, 1, 1);
        Due.due("HEARING, a HILL wakes him", c.mile(0, 4), 4);
    }

    private static String blanks(int many) {
        return " ".repeat(many);
    }

    private static void tape() {
        Sentence.of(Sentence.TERMS, "THE TAPE has 160 bytes, places from 0.");
        CoachCourt c = new CoachCourt();
        Due.due("160 bytes of blanks", Due.tell(c, blanks(160)), 0);
        Due.due("a line that ends with byte 159", Due.tell(c, blanks(151) + "mile 1 2;"), 1);
        Due.due("its LAND", c.mile(0, 0), 1);
        Due.due("160 bytes, a line ahead", Due.tell(c, "mile 2 3;" + blanks(151)), 1);
        Due.due("its HILL", c.mile(0, 1), 3);
        Due.faulty("?", 0, 1);
        Due.faulty(blanks(159) + "?", 159, 1);
        Due.faulty(blanks(152) + "mile 0 0", 160, 2);
        Due.faulty(blanks(154) + "mud 0;", 160, 6);
        Due.faulty("a".repeat(160), 0, 2);
        Due.faulty("1".repeat(160), 0, 1);
        Due.faulty("mile 0 " + "0".repeat(153), 7, 1);
    }

    private static void tokens() {
        CoachCourt c = new CoachCourt();
        Sentence.of(Sentence.TERMS, "TOKENS, each as long as may be, blanks (32) between");
        Due.due("no blank needed", Due.tell(c, "mile1 2;mud0;room3;"), 3);
        Due.due("many blanks", Due.tell(c, "  mile   1  2  ;  mud   0 ;   "), 2);
        Due.faulty("mi le 0 0;", 0, 2);
        Due.faulty("mile 12;", 5, 3);
        Due.faulty("mile 02;", 7, 2);
        Due.faulty("milemud 0;", 0, 2);
        Due.faulty("mile\t0 0;", 4, 1);
        Due.faulty("mile 0 0;\n", 9, 1);
        Sentence.of(Sentence.TERMS, "NAMES (a .. z)");
        Due.faulty("a", 0, 2);
        Due.faulty("z", 0, 2);
        Due.faulty("`", 0, 1);
        Due.faulty("{", 0, 1);
        Due.faulty("A", 0, 1);
        Due.faulty("mile`0 0;", 4, 1);
        Due.faulty("mile{0 0;", 4, 1);
        Due.faulty("mile_0 0;", 4, 1);
        Due.faulty("milE 0 0;", 0, 2);
        Sentence.of(Sentence.TERMS, "NUMBERS (1 or 2 figures)");
        Due.due("1 figure, 2 figures", Due.tell(c, "mile 3 03;"), 1);
        Due.due("LAND 3", c.mile(0, 0), 3);
        Due.due("HILL 03", c.mile(0, 1), 3);
        Due.faulty("mile 3 003;", 7, 1);
        Due.faulty("mile 0/0;", 6, 1);
        Due.faulty("mile 0:0;", 6, 1);
        Due.faulty("mile -1 0;", 5, 1);
        Sentence.of(Sentence.TERMS, "one ; .");
        Due.due("one each", Due.tell(c, "mile 0 0;mile 0 0 ;"), 2);
        Due.faulty("mile 0 0;;", 9, 2);
        Due.faulty(";mile 0 0;", 0, 2);
        Due.faulty("mile 0 0:", 8, 1);
        Due.faulty("mile 0 0<", 8, 1);
        everyByte();
    }

    /** Each byte alone, and behind a line that lacks its semicolon. */
    private static void everyByte() {
        for (int c = 0; c < 128; c++) {
            String sign = String.valueOf((char) c);
            boolean token = c >= 'a' && c <= 'z' || c >= '0' && c <= '9' || c == ';';
            CoachCourt alone = new CoachCourt();
            Due.due("byte " + c + " alone", Due.tell(alone, sign), c == ' ' ? 0 : -10);
            Due.due("FAULT of byte " + c + " alone", alone.fault(), c == ' ' ? 0 : token ? 2 : 1);
            CoachCourt behind = new CoachCourt();
            int place = c == ' ' || c >= '0' && c <= '3' ? 9 : c >= '4' && c <= '9' ? 7 : 8;
            int fault = c >= '4' && c <= '9' ? 3 : token || c == ' ' ? 2 : 1;
            Due.due("byte " + c + " behind a line", Due.tell(behind, "mile 0 0" + sign), c == ';' ? 1 : -10 - place);
            Due.due("FAULT of byte " + c + " behind a line", behind.fault(), c == ';' ? 0 : fault);
        }
    }

    private static void lines() {
        Sentence.of(Sentence.TERMS, "text: { line }");
        Due.due("no line", Due.tell(new CoachCourt(), ""), 0);
        Due.due("one line", Due.tell(new CoachCourt(), "mile 0 0;"), 1);
        Due.due("as many lines as there may be on THE TAPE", Due.tell(new CoachCourt(), "mile0 0;".repeat(8) + "lame1 1 1 0;".repeat(4)
            + "mud0;mud1;mud2;mud3;mud4;mud5;mud6;mud7;room1;"), 21);
        Sentence.of(Sentence.TERMS, "line: mile N N ; | mud N ; | plain N N N N ; | rider N N N N ; | lame N N N N ; | counsel N N N N ; | room N ; | snow N ;");
        String[] names = {"mile", "mud", "plain", "rider", "lame", "counsel", "room", "snow"};
        int[] numbers = {2, 1, 4, 4, 4, 4, 1, 1};
        for (int i = 0; i < 8; i++) {
            String line = names[i] + " 1".repeat(numbers[i]);
            Due.due(line + ";", Due.tell(new CoachCourt(), "mile 0 0;mile 0 0;" + line + ";"), 3);
            Due.faulty("mile 0 0;" + line + " 1;", 10 + line.length(), 2);
            Due.faulty("mile 0 0;" + line.substring(0, line.length() - 2) + ";", 7 + line.length(), 2);
            Due.faulty("mile 0 0;" + line.substring(0, line.length() - 1) + "x;", 8 + line.length(), 2);
        }
    }

    private static void whatLinesTell() {
        Sentence.of(Sentence.TERMS, "mile: a MILE more: LAND, HILL.");
        CoachCourt c = Due.told("mile 1 2;mile 3 0;");
        Due.due("LAND, HILL", 1000 * c.mile(0, 0) + 100 * c.mile(0, 1) + 10 * c.mile(1, 0) + c.mile(1, 1), 1230);
        Sentence.of(Sentence.TERMS, "mud: a MILE (0 to 7) in which it is.");
        c = Due.told(EIGHT + "mud 0;mud 7;");
        Due.due("MUD in 0", c.mile(0, 2), 1);
        Due.due("MUD in 7", c.mile(7, 2), 1);
        Due.due("MUD in no other", c.count(0), 2);
        Due.faulty(EIGHT + "mud 8;", 76, 3);
        Due.faulty("mud 10;", 4, 3);
        Due.due("MUD told ahead of its MILE", Due.told("mud 0;mile 0 0;").mile(0, 2), 1);
        Sentence.of(Sentence.TERMS, "plain, rider, lame, counsel: a PARTY more of that KIND: WIND, NEED, LAW, STANDS (0 to 7).");
        c = Due.told("lame 12 11 3 7;" + EIGHT);
        int[] due = {2, 12, 11, 3, 7};
        for (int what = 0; what < 5; what++) {
            Due.due("told ahead of its MILE: party(0, " + what + ")", c.party(0, what), due[what]);
        }
        Due.faulty("lame 12 11 3 8;" + EIGHT, 13, 3);
        Sentence.of(Sentence.TERMS, "room: ROOM. snow: SNOW.");
        c = Due.told("room 2;snow 3;");
        Due.due("ROOM", c.rule(2), 2);
        Due.due("SNOW", c.rule(3), 3);
    }

    private static void firstMet() {
        Sentence.of(Sentence.TERMS, "FAULTS, the first met as it is read (a TOKEN is read when the one before has been taken)");
        Due.faulty("x?", 0, 2);
        Due.faulty("mile;?", 4, 2);
        Due.faulty("mile 4?", 5, 3);
        Due.faulty("mile 4 4;", 5, 3);
        Due.faulty("mile 9", 5, 3);
        Due.faulty("mile ?4", 5, 1);
        Due.faulty("room 1;room?", 7, 4);
        Due.faulty("room 1;room 9;", 7, 4);
        Due.faulty("snow 1;snow 100;", 7, 4);
        Due.faulty("mud 3;mud 3?", 10, 4);
        Due.faulty("mud 3;mud 9;", 10, 3);
        Due.faulty("mud 3;mud 333;", 10, 1);
        Due.faulty(EIGHT + "mile?", 72, 5);
        Due.faulty(EIGHT + "mile 9 9;", 72, 5);
        Due.faulty("mile 0 0;" + "lame 1 1 1 0;".repeat(4) + "lame;", 61, 5);
        Due.faulty("mud 7;mile 0 0;?", 15, 1);
        Due.faulty("lame 1 1 1 7;mile 0 0", 21, 2);
    }

    private static void faults() {
        Sentence.of(Sentence.TERMS, "1 no TOKEN");
        Due.faulty("?", 0, 1);
        Due.faulty("  ?", 2, 1);
        Due.faulty("mile 0 0;mile 0 (", 16, 1);
        Sentence.of(Sentence.TERMS, "a NUMBER that is too long (its first byte).");
        Due.faulty("123", 0, 1);
        Due.faulty("mile 000 0;", 5, 1);
        Due.faulty("mile 0 0 123;", 9, 1);
        Due.faulty("mile 0 99999999999;", 7, 1);
        Sentence.of(Sentence.TERMS, "2 a TOKEN that can not stand there (a NAME that begins no line");
        for (String name : new String[] {"m", "mil", "miles", "elim", "mi", "plai", "riders", "lam", "counsels", "roo", "snows", "muds", "mu"}) {
            Due.faulty("room 1;" + name + " 1 1;", 7, 2);
        }
        Due.faulty("room 1;12", 7, 2);
        Due.faulty("room 1;;", 7, 2);
        Due.faulty("room mile;", 5, 2);
        Due.faulty("room 1 mile", 7, 2);
        Sentence.of(Sentence.TERMS, "or the end: the length).");
        Due.faulty("mile", 4, 2);
        Due.faulty("mile 0", 6, 2);
        Due.faulty("mile 0 0", 8, 2);
        Due.faulty("mile 0 0;mud 0 ", 15, 2);
        Due.faulty("plain 1 1 1   ", 14, 2);
        Sentence.of(Sentence.TERMS, "3 a NUMBER out of its bounds.");
        Due.faulty("mile 3 3;mile 4 0;", 14, 3);
        Due.faulty("room 05;", 5, 3);
        Due.faulty("mile 0 0;mud 08;", 13, 3);
        Sentence.of(Sentence.TERMS, "4 room, snow for the second time (its NAME)");
        Due.faulty("room 1; room 1;", 8, 4);
        Due.faulty("snow 1;room 1; snow 1;", 15, 4);
        Due.faulty("room 4;room", 7, 4);
        Due.faulty("snow 99;snow", 8, 4);
        Due.due("once each", Due.tell(new CoachCourt(), "snow 99;room 4;"), 2);
        Sentence.of(Sentence.TERMS, "a MILE that has MUD already (it).");
        Due.faulty("mile 0 0;mud 0;mud  0;", 20, 4);
        Due.faulty("mud 7;mud 0;mud 07;", 16, 4);
        Sentence.of(Sentence.TERMS, "5 the 9th mile");
        Due.faulty(EIGHT + "room 1; mile 0 0;", 80, 5);
        Due.due("the 8th", Due.tell(new CoachCourt(), EIGHT), 8);
        Sentence.of(Sentence.TERMS, "the 5th PARTY (its NAME).");
        for (String name : new String[] {"plain", "rider", "lame", "counsel"}) {
            Due.faulty("mile 0 0;" + "lame 1 1 1 0;".repeat(4) + " " + name + " 1 1 1 0;", 62, 5);
        }
        Due.due("the 4th", Due.tell(new CoachCourt(), "mile 0 0;" + "lame 1 1 1 0;".repeat(4)), 5);
    }

    private static void noMileBehindAll() {
        Sentence.of(Sentence.TERMS, "Behind all (the length): 6 a MILE that there is not (of mud, of STANDS).");
        Due.faulty("mud 0;", 6, 6);
        Due.faulty("mile 0 0;mud 1;", 15, 6);
        Due.faulty("mud 1;mile 0 0;  ", 17, 6);
        Due.faulty("lame 1 1 1 0;", 13, 6);
        Due.faulty("mile 0 0;lame 1 1 1 0;lame 1 1 1 1;", 35, 6);
        Due.faulty(EIGHT.substring(9) + "mud 7;", 69, 6);
        Due.faulty(EIGHT.substring(9) + "lame 1 1 1 7;", 76, 6);
        Due.due("the last MILE", Due.tell(new CoachCourt(), EIGHT + "mud 7;lame 1 1 1 7;"), 10);
    }

    private static void taken() {
        Sentence.of(Sentence.TERMS, "A text that is taken tells all, in place of what there was");
        CoachCourt c = Twins.busy();
        c.end(0);
        Due.due("a short text", Due.tell(c, "mile 1 1;mile 2 0;"), 2);
        int[] rules = {2, 0, 4, 99, 6, 2};
        for (int what = 0; what < 6; what++) {
            Due.due("rule(" + what + ") of a short text", c.rule(what), rules[what]);
        }
        Due.due("no MUD is left", c.count(0), 0);
        Due.due("no WIND is left", c.count(5), 0);
        Sentence.of(Sentence.TERMS, "nothing is SEEN");
        Due.due("SEEN", c.count(1), 0);
        Due.due("all may be", c.turned(), 256 + 1);
        Sentence.of(Sentence.TERMS, "IMAGES are gone.");
        Due.due("IMAGES", c.count(2), 0);
        Due.due("IMAGE 0", c.back(0), -2);
        Due.due("IMAGE 1", c.back(1), -2);
        Due.due("SHEETS stay", c.count(4), 4);
    }
}
