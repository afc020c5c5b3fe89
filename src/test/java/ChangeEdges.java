/** Promises 10 to 14: what is changed. */
final class ChangeEdges {
    private static final Twins.Call PAVE = (c, a) -> c.pave(a[0], a[1], a[2]);
    private static final Twins.Call ALTER = (c, a) -> c.alter(a[0], a[1], a[2]);

    private ChangeEdges() { }

    static void ask() {
        pave();
        alter();
        stand();
        set();
        turn();
    }

    /** Goes through all numbers that may be, up and down: each answer is the one before. */
    private static void upAndDown(String told, CoachCourt c, Twins.Call call, int[] where, int was, int low, int high) {
        int before = was;
        for (int i = 0; i <= 2 * (high - low); i++) {
            int v = i <= high - low ? low + i : 2 * high - low - i;
            Due.due(told + " to " + v, call.on(c, where[0], where[1], v), before);
            before = v;
        }
    }

    private static void pave() {
        Sentence.of(10, "LAND, HILL, MUD (what 0 to 2; 1, 0) of a MILE becomes v: what it was.");
        CoachCourt c = Due.told("mile 1 2;mile 2 1;mud 1;");
        upAndDown("LAND", c, PAVE, new int[] {1, 0}, 2, 0, 3);
        upAndDown("HILL", c, PAVE, new int[] {1, 1}, 1, 0, 3);
        upAndDown("MUD", c, PAVE, new int[] {1, 2}, 1, 0, 1);
        int[][] due = {{1, 2, 0, 6, 6}, {0, 0, 0, 2, 1}};
        for (int m = 0; m < 2; m++) {
            for (int what = 0; what < 5; what++) {
                Due.due("paved: mile(" + m + ", " + what + ")", c.mile(m, what), due[m][what]);
            }
        }
        Due.due("MUD where there is MUD", c.pave(0, 2, 1) + 10 * c.pave(0, 2, 1), 10);
        Sentence.of(10, "BAD.");
        Twins.bad("pave", PAVE, new int[] {0, 0, 0}, 0, -1, 5, 7, 8);
        Twins.bad("pave", PAVE, new int[] {0, 0, 0}, 1, -1, 3, 4);
        Twins.bad("pave", PAVE, new int[] {0, 0, 0}, 2, -1, 4);
        Twins.bad("pave", PAVE, new int[] {0, 1, 0}, 2, -1, 4);
        Twins.bad("pave", PAVE, new int[] {0, 2, 0}, 2, -1, 2, 3);
        Due.due("pave(0, 0, 0) of none", new CoachCourt().pave(0, 0, 0), -1);
    }

    private static void alter() {
        Sentence.of(11, "KIND, WIND, NEED, LAW (what 0 to 3) of a PARTY becomes v: what it was.");
        CoachCourt c = Due.told("mile 0 0;mile 0 0;plain 7 8 1 1;rider 9 9 2 1;");
        upAndDown("KIND", c, ALTER, new int[] {1, 0}, 1, 0, 3);
        upAndDown("WIND", c, ALTER, new int[] {1, 1}, 9, 0, 99);
        upAndDown("NEED", c, ALTER, new int[] {1, 2}, 9, 1, 20);
        upAndDown("LAW", c, ALTER, new int[] {1, 3}, 2, 0, 3);
        int[][] due = {{0, 7, 8, 1, 1}, {0, 0, 1, 0, 1}};
        for (int p = 0; p < 2; p++) {
            for (int what = 0; what < 5; what++) {
                Due.due("altered: party(" + p + ", " + what + ")", c.party(p, what), due[p][what]);
            }
        }
        Sentence.of(11, "BAD.");
        Twins.bad("alter", ALTER, new int[] {0, 0, 1}, 0, -1, 4);
        Twins.bad("alter", ALTER, new int[] {0, 0, 1}, 1, -1, 4, 5);
        Twins.bad("alter", ALTER, new int[] {0, 0, 1}, 2, -1, 4);
        Twins.bad("alter", ALTER, new int[] {0, 1, 1}, 2, -1, 100);
        Twins.bad("alter", ALTER, new int[] {0, 2, 1}, 2, -1, 0, 21);
        Twins.bad("alter", ALTER, new int[] {0, 3, 1}, 2, -1, 4);
        Due.due("alter(0, 0, 0) of nobody", Due.told("mile 0 0;").alter(0, 0, 0), -1);
    }

    private static void stand() {
        Sentence.of(12, "A PARTY STANDS at the stone of a MILE that there is: where it did.");
        CoachCourt c = Due.told(RoadEdges.EIGHT + RoadEdges.FOUR);
        Due.due("stand(3, 0)", c.stand(3, 0), 1);
        Due.due("stand(3, 7)", c.stand(3, 7), 0);
        Due.due("stand(3, 7) where it STANDS", c.stand(3, 7), 7);
        Due.due("stand(0, 7) beside another", c.stand(0, 7), 0);
        int[] stones = {7, 7, 3, 7};
        for (int p = 0; p < 4; p++) {
            Due.due("STANDS of " + p, c.party(p, 4), stones[p]);
        }
        Sentence.of(12, "BAD.");
        Twins.bad("stand", (x, a) -> x.stand(a[0], a[1]), new int[] {0, 4}, 0, -1, 4);
        Twins.bad("stand", (x, a) -> x.stand(a[0], a[1]), new int[] {0, 4}, 1, -1, 5, 7, 8, -4);
        Due.due("stand(0, 8) of 8", c.stand(0, 8), -1);
        Due.due("stand(0, 0) of nobody", Due.told("mile 0 0;").stand(0, 0), -1);
    }

    private static void set() {
        Sentence.of(13, "ROOM (what 2), SNOW (3) becomes v: what it was.");
        CoachCourt c = new CoachCourt();
        upAndDown("ROOM", c, (x, a) -> x.set(a[0], a[2]), new int[] {2, 0}, 4, 1, 4);
        upAndDown("SNOW", c, (x, a) -> x.set(a[0], a[2]), new int[] {3, 0}, 99, 0, 99);
        Due.due("ROOM in the end", c.rule(2), 1);
        Due.due("SNOW in the end", c.rule(3), 0);
        Sentence.of(13, "BAD.");
        Twins.bad("set", (x, a) -> x.set(a[0], a[1]), new int[] {2, 1}, 0, -1, 0, 1, 4, 5);
        Twins.bad("set", (x, a) -> x.set(a[0], a[1]), new int[] {2, 1}, 1, -1, 0, 5);
        Twins.bad("set", (x, a) -> x.set(a[0], a[1]), new int[] {3, 1}, 1, -1, 100);
    }

    private static void turn() {
        Sentence.of(14, "LANDS of two MILES that are neighbours, the first of which it is, are changed: LAND of the first one then.");
        CoachCourt c = Due.told("mile 0 1;mile 1 2;mile 2 3;mud 1;");
        Due.due("turn(0)", c.turn(0), 1);
        Due.due("turn(1): the last but one", c.turn(1), 2);
        int[][] due = {{1, 1, 0}, {2, 2, 1}, {0, 3, 0}};
        for (int m = 0; m < 3; m++) {
            for (int what = 0; what < 3; what++) {
                Due.due("turned: mile(" + m + ", " + what + ")", c.mile(m, what), due[m][what]);
            }
        }
        Due.due("turn(0) of LANDS that are alike", Due.told("mile 3 0;mile 3 1;").turn(0), 3);
        Due.due("turn(6) of 8", Due.told(RoadEdges.EIGHT).turn(6), 3);
        Sentence.of(14, "BAD (also the last MILE).");
        Twins.bad("turn", (x, a) -> x.turn(a[0]), new int[] {0}, 0, -1, 4, 5, 7);
        Due.due("turn(7) of 8", Due.told(RoadEdges.EIGHT).turn(7), -1);
        Due.due("turn(0) of 1", Due.told("mile 0 0;").turn(0), -1);
        Due.due("turn(0) of none", new CoachCourt().turn(0), -1);
        Due.due("turn(-1) of none", new CoachCourt().turn(-1), -1);
    }
}
