/** Promises 18 to 26: what is best, mud by odds. */
final class BestEdges {
    private static final String FAR = "mile 1 0;mile 1 0;mile 1 0;mile 1 0;mile 1 0;mile 1 0;mile 1 0;mile 0 0;";

    private BestEdges() { }

    static void ask() {
        best();
        bestRefused();
        place();
        never();
        oats();
        room();
        snow();
        rain();
        luck();
        mean();
    }

    private static void best() {
        Sentence.of(18, "Where all are to STAND (MILES there are) so that there are most VERDICTS");
        CoachCourt c = Due.told(FAR + "plain 2 1 0 0;plain 2 1 0 0;plain 2 1 0 0;plain 2 1 0 0;");
        BestTest.best("all at the last stone", c, 4, 7, 7, 7, 7);
        BestTest.best("each where alone it can", Due.told("mile 0 0;mile 1 0;plain 2 1 1 0;plain 2 1 0 1;"), 2, 1, 0);
        BestTest.best("each out of the other's way", Due.told("mile 0 0;mile 1 0;plain 99 1 1 0;plain 99 1 0 1;room 1;"), 2, 1, 0);
        Twins.asked("best", (x, a) -> x.best(a[0]), 0);
        Twins.asked("best", (x, a) -> x.best(a[0]), 13);
        Sentence.of(18, "of several the first by PARTIES, stones by numbers");
        c.set(2, 1);
        BestTest.best("ROOM for one", c, 1, 0, 0, 0, 7);
        c.alter(3, 3, 2);
        BestTest.best("the last one can not", c, 1, 0, 0, 7, 0);
        BestTest.best("one each", Due.told("mile 0 0;mile 0 0;plain 9 1 0 1;plain 9 1 0 0;room 1;"), 2, 0, 1);
        Sentence.of(18, "how many (what 0)");
        BestTest.best("nobody", Due.told("mile 0 0;"), 0);
        BestTest.best("none can", Due.told("mile 0 0;mile 0 0;plain 1 1 0 1;plain 9 1 3 1;"), 0, 0, 0);
        BestTest.best("SNOW 0", Due.told("mile 0 0;plain 9 1 0 0;snow 0;"), 0, 0);
        CoachCourt d = Due.told("mile 1 0;mile 0 0;plain 2 1 0 0;");
        BestTest.best("one can", d, 1, 1);
        d.alter(0, 1, 1);
        BestTest.best("it can no more", d, 0, 0);
        Sentence.of(18, "10 and p: the stone of a PARTY.");
        Due.due("best(10)", c.best(10), 0);
        Due.due("best(12)", c.best(12), 7);
        Due.due("best(13)", c.best(13), 0);
    }

    private static void bestRefused() {
        Sentence.of(18, "BAD");
        Twins.bad("best", (x, a) -> x.best(a[0]), new int[] {0}, 0, -1, 1, 4, 9, 14, 20, -10);
        Due.due("best(11) of one", Due.told("mile 0 0;plain 9 1 0 0;").best(11), -1);
        Due.due("best(10) of nobody", Due.told("mile 0 0;").best(10), -1);
        Due.due("best(10) of no MILE", new CoachCourt().best(10), -1);
        Sentence.of(18, "STATE: there is no MILE.");
        Due.due("best(0) of a new one", new CoachCourt().best(0), -2);
        CoachCourt c = Due.told("mile 0 0;");
        c.text();
        Due.due("best(0) of a text of nothing", c.best(0), -2);
    }

    private static void place() {
        Sentence.of(19, "Where a PARTY is to STAND, all others as they do, so that its VERDICT is soonest");
        CoachCourt c = Due.told("mile 0 0;mile 1 0;mile 0 0;mile 0 0;plain 99 2 0 3;plain 99 1 0 3;room 1;");
        BestTest.place("a VERDICT in MILE 2", c, 0, 0, 2);
        BestTest.place("a VERDICT in MILE 0", c, 1, 0, 0);
        c.stand(0, 0);
        BestTest.place("another in the way", c, 1, 3, 3);
        Twins.asked("place", (x, a) -> x.place(a[0], a[1]), 0, 0);
        Sentence.of(19, "of several the last stone (what 0)");
        CoachCourt d = Due.told(FAR + "plain 99 1 0 0;counsel 99 1 0 0;");
        BestTest.place("any stone would do", d, 0, 7, 7);
        d.pave(6, 0, 0);
        d.alter(0, 2, 2);
        BestTest.place("any stone but the last", d, 0, 6, 7);
        Sentence.of(19, "in which MILE that VERDICT is (1).");
        BestTest.place("counsel", d, 1, 6, 6);
        Sentence.of(19, "BAD");
        Twins.bad("place", (x, a) -> x.place(a[0], a[1]), new int[] {0, 0}, 0, -1, 4);
        Twins.bad("place", (x, a) -> x.place(a[0], a[1]), new int[] {0, 0}, 1, -1, 2);
        Due.due("place(0, 0) of nobody", Due.told("mile 0 0;").place(0, 0), -1);
        Due.due("place(0, 0) of no road", new CoachCourt().place(0, 0), -1);
        Sentence.of(19, "NONE: nowhere.");
        d.alter(0, 1, 1);
        BestTest.place("no WIND", d, 0, -4, -4);
        d.set(3, 0);
        BestTest.place("SNOW 0", d, 1, -4, -4);
    }

    private static void never() {
        Sentence.of(20, "PARTIES that, wherever they STAND, all others as they do, have no VERDICT (bits).");
        CoachCourt c = Due.told("mile 0 0;plain 9 1 0 0;plain 9 1 0 0;plain 9 1 0 0;plain 9 1 0 0;");
        Due.due("all can", c.never(), 0);
        c.set(2, 1);
        Due.due("ROOM for the first", c.never(), 14);
        c.alter(0, 1, 1);
        Due.due("who can not run is not in the way", c.never(), 13);
        c.set(3, 0);
        Due.due("SNOW 0", c.never(), 15);
        Due.due("nobody", Due.told("mile 0 0;").never(), 0);
        Due.due("no road", new CoachCourt().never(), 0);
        CoachCourt d = Due.told(FAR + "plain 2 1 0 0;");
        Due.due("from the last stone alone", d.never(), 0);
        Twins.asked("never", (x, a) -> x.never());
    }

    private static void oats() {
        Sentence.of(21, "The least WIND (0 to 99) with which a PARTY has a VERDICT, all else as it is.");
        CoachCourt c = Due.told("mile 0 0;mile 0 0;plain 99 1 0 0;rider 0 1 0 0;lame 1 2 0 0;");
        Due.due("one MILE, plain", c.oats(0), 2);
        Due.due("one MILE, rider", c.oats(1), 1);
        Due.due("two MILES, lame", c.oats(2), 8);
        String seven = "mile1 3;mile1 3;mile1 3;mile1 3;mile1 3;mile1 3;mile0 3;mile2 0;";
        CoachCourt d = Due.told(seven + "mud0;mud1;mud2;mud3;mud4;mud5;mud6;plain 0 1 0 0;");
        Due.due("7 times 14", d.oats(0), 98);
        Due.due("WIND is as it was", d.party(0, 1), 0);
        Twins.asked("oats", (x, a) -> x.oats(a[0]), 0);
        Sentence.of(21, "BAD");
        Twins.bad("oats", (x, a) -> x.oats(a[0]), new int[] {0}, 0, -1, 4);
        Due.due("oats(0) of nobody", Due.told("mile 0 0;").oats(0), -1);
        Sentence.of(21, "NONE: with none.");
        d.alter(0, 3, 2);
        Due.due("100 would be needed", d.oats(0), -4);
        d.stand(0, 1);
        Due.due("86 are needed from MILE 1", d.oats(0), 86);
        d.alter(0, 3, 3);
        Due.due("no LAND of its LAW", d.oats(0), -4);
    }

    private static void room() {
        Sentence.of(22, "The least ROOM by which there are as many VERDICTS as by ROOM 4.");
        CoachCourt c = Due.told("mile 0 0;plain 9 1 0 0;plain 9 1 0 0;plain 9 1 0 0;plain 9 1 0 0;");
        for (int p = 3; p >= 0; p--) {
            for (int room = 1; room <= 4; room++) {
                c.set(2, room);
                Due.due("ROOM for all up to " + p + " by " + room, c.room(), p + 1);
                Due.due("ROOM is as it was", c.rule(2), room);
            }
            c.alter(p, 3, 1);
        }
        Due.due("no VERDICTS", c.room(), 1);
        Due.due("no road", new CoachCourt().room(), 1);
        Twins.asked("room", (x, a) -> x.room());
    }

    private static void snow() {
        Sentence.of(23, "The least SNOW by which there are as many VERDICTS as by SNOW 99.");
        CoachCourt c = Due.told("mile0 3;".repeat(8) + "mud0;mud1;mud2;mud3;mud4;mud5;mud6;mud7;plain 99 1 0 0;plain 99 1 0 0;");
        for (int m = 0; m < 8; m++) {
            c.stand(0, m);
            c.set(3, m);
            Due.due("a VERDICT in MILE " + m, c.snow(), 11 * m + 1);
            Due.due("SNOW is as it was", c.rule(3), m);
        }
        c.alter(0, 3, 1);
        Due.due("a VERDICT in MILE 0 alone", c.snow(), 1);
        c.alter(1, 3, 1);
        Due.due("no VERDICTS", c.snow(), 0);
        Due.due("no road", new CoachCourt().snow(), 0);
        Twins.asked("snow", (x, a) -> x.snow());
    }

    private static void rain() {
        Sentence.of(24, "The MILE in which MUD is to be, or not to be any more, so that there are most VERDICTS");
        BestTest.rain("MUD is to be", Due.told("mile 0 0;plain 99 5 0 0;"), 0, 1);
        BestTest.rain("MUD is not to be", Due.told("mile 0 0;mud 0;plain 2 1 0 0;"), 0, 1);
        BestTest.rain("MUD in the last of 8", Due.told(FAR + "plain 99 5 0 7;"), 7, 1);
        BestTest.rain("the most, not the first that is more", Due.told("mile 0 0;mile 1 0;plain 99 5 0 0;plain 99 5 1 0;plain 99 5 1 1;"), 1, 2);
        Twins.asked("rain", (x, a) -> x.rain(a[0]), 0);
        Sentence.of(24, "more than as it is");
        CoachCourt c = Due.told("mile 0 0;mile 1 0;plain 99 1 0 0;plain 4 5 1 1;");
        BestTest.rain("as many as it is", c, -4, -4);
        c.alter(1, 1, 5);
        BestTest.rain("one more than it is", c, 1, 2);
        Sentence.of(24, "of several the first (what 0)");
        CoachCourt d = Due.told("mile 1 0;mile 0 0;mile 0 0;mile 0 0;plain 99 5 0 0;");
        Due.due("three would do", d.rain(0), 1);
        Sentence.of(24, "how many (1).");
        Due.due("one VERDICT", d.rain(1), 1);
        Due.due("four VERDICTS", Due.told("mile 0 0;" + "plain 9 5 0 0;".repeat(4)).rain(1), 4);
        Sentence.of(24, "BAD");
        Twins.bad("rain", (x, a) -> x.rain(a[0]), new int[] {0}, 0, -1, 2);
        Sentence.of(24, "NONE: none.");
        BestTest.rain("no road", new CoachCourt(), -4, -4);
        BestTest.rain("nobody", Due.told("mile 0 0;"), -4, -4);
        BestTest.rain("no MUD helps", Due.told("mile 0 0;plain 99 6 0 0;"), -4, -4);
    }

    private static void luck() {
        Sentence.of(25, "Each MILE has MUD by v out of ten (0 to 10), by itself, whatever it has now");
        CoachCourt c = Due.told("mile 0 0;mile 0 0;plain 99 3 0 0;plain 99 10 0 0;");
        for (int muds = 0; muds < 4; muds++) {
            c.pave(0, 2, muds & 1);
            c.pave(1, 2, muds >> 1);
            BestTest.luck(c, 0, 0, 0, 1);
            BestTest.luck(c, 1, 0, 19, 100);
            BestTest.luck(c, 9, 0, 99, 100);
            BestTest.luck(c, 10, 0, 1, 1);
            BestTest.luck(c, 1, 1, 1, 100);
            BestTest.luck(c, 9, 1, 81, 100);
            BestTest.luck(c, 10, 1, 1, 1);
            Due.due("MUD is as it was", c.mile(0, 2) + 2 * c.mile(1, 2), muds);
        }
        Sentence.of(25, "that a PARTY has a VERDICT: 0, 1.");
        BestTest.luck(Due.told("mile 0 0;".repeat(8) + "rider 99 9 0 0;"), 1, 0, 56953279, 100000000);
        BestTest.luck(Due.told("mile 0 0;".repeat(8) + "rider 99 9 0 0;"), 9, 0, 99999999, 100000000);
        BestTest.luck(Due.told("mile 0 0;".repeat(8) + "rider 99 1 0 0;"), 3, 0, 1, 1);
        BestTest.luck(Due.told("mile 0 0;plain 99 1 3 0;"), 3, 0, 0, 1);
        Twins.asked("luck", (x, a) -> x.luck(a[0], a[1], a[2]), 3, 0, 0);
        Sentence.of(25, "BAD.");
        Twins.bad("luck", (x, a) -> x.luck(a[0], a[1], a[2]), new int[] {5, 0, 0}, 0, -1, 11);
        Twins.bad("luck", (x, a) -> x.luck(a[0], a[1], a[2]), new int[] {5, 0, 0}, 1, -1, 4);
        Twins.bad("luck", (x, a) -> x.luck(a[0], a[1], a[2]), new int[] {5, 0, 0}, 2, -1, 2);
        Due.due("luck(5, 0, 0) of nobody", Due.told("mile 0 0;").luck(5, 0, 0), -1);
    }

    private static void mean() {
        Sentence.of(26, "Likewise, the mean of how many VERDICTS: 0, 1.");
        CoachCourt c = Due.told("mile 0 0;mud 0;plain 99 5 0 0;plain 99 1 0 0;plain 4 1 0 0;");
        BestTest.mean(c, 0, 2, 1);
        BestTest.mean(c, 1, 2, 1);
        c.alter(2, 2, 20);
        BestTest.mean(c, 1, 11, 10);
        BestTest.mean(c, 9, 19, 10);
        BestTest.mean(c, 10, 2, 1);
        Due.due("MUD is as it was", c.mile(0, 2), 1);
        BestTest.mean(Due.told("mile 0 0;".repeat(8) + "rider 9 1 0 0;".repeat(4)), 7, 4, 1);
        BestTest.mean(Due.told("mile0 0;".repeat(8) + "rider 99 9 0 0;".repeat(4)), 9, 99999999, 25000000);
        BestTest.mean(Due.told("mile 0 0;"), 7, 0, 1);
        BestTest.mean(new CoachCourt(), 7, 0, 1);
        Twins.asked("mean", (x, a) -> x.mean(a[0], a[1]), 3, 0);
        Sentence.of(26, "BAD.");
        Twins.bad("mean", (x, a) -> x.mean(a[0], a[1]), new int[] {5, 0}, 0, -1, 11);
        Twins.bad("mean", (x, a) -> x.mean(a[0], a[1]), new int[] {5, 0}, 1, -1, 2);
    }
}
