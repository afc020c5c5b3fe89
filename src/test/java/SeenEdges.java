/** Promises 27 to 32: what was seen, stands by a seed. */
final class SeenEdges {
    private static final String ROAD = "mile 0 0;mile 1 0;mile 0 0;plain 99 1 0 1;";
    private static final String DRIFT = "mile 0 0;mile 1 1;mile 2 0;mile 0 2;mile 1 0;plain 12 2 0 1;rider 9 1 1 0;lame 30 4 2 3;room 2;";

    private SeenEdges() { }

    static void ask() {
        see();
        forget();
        turned();
        laws();
        look();
        lookRefused();
        drift();
        driftRefused();
    }

    private static void see() {
        Sentence.of(27, "SEEN: a PARTY has a VERDICT in a MILE (0 to 7; NONE: it has none): how many are.");
        CoachCourt c = Due.told(ROAD);
        Due.due("see(0, 0)", c.see(0, 0), 1);
        Due.due("see(0, 7), though there is no such MILE", c.see(0, 7), 2);
        Due.due("see(0, NONE)", c.see(0, CoachCourt.NONE), 3);
        Due.due("see(0, 0) once more", c.see(0, 0), 4);
        Due.due("count(1)", c.count(1), 4);
        Sentence.of(27, "BAD");
        Twins.bad("see", (x, a) -> x.see(a[0], a[1]), new int[] {0, 0}, 0, -1, 4, -4);
        Twins.bad("see", (x, a) -> x.see(a[0], a[1]), new int[] {0, 0}, 1, -1, -2, -3, -5, 8);
        Due.due("see(0, 0) of nobody", Due.told("mile 0 0;").see(0, 0), -1);
        Due.due("see(0, NONE) of nobody", new CoachCourt().see(0, -4), -1);
        Sentence.of(27, "FULL.");
        Due.due("the 5th", c.see(0, 1), 5);
        Due.due("the 6th", c.see(0, 1), 6);
        Due.due("the 7th", c.see(0, 1), -3);
        Due.due("the 7th, NONE", c.see(0, -4), -3);
        Due.due("six are", c.count(1), 6);
        c.forget(5);
        Due.due("the 6th again", c.see(0, 1), 6);
    }

    private static void forget() {
        Sentence.of(28, "SEEN are the first n alone: how many there were.");
        CoachCourt c = Due.told(ROAD);
        Due.due("forget(0) of none", c.forget(0), 0);
        c.see(0, 2);
        c.see(0, 1);
        Due.due("forget(2) of 2", c.forget(2), 2);
        Due.due("both can not be", c.turned(), 0);
        Due.due("forget(1) of 2", c.forget(1), 2);
        Due.due("the first stays", c.turned(), 256);
        Due.due("the next comes behind it", c.see(0, 2), 2);
        Due.due("so it may be", c.turned(), 256);
        Due.due("forget(0) of 2", c.forget(0), 2);
        Due.due("none is left", c.count(1), 0);
        Due.due("forget(6) of 6", TermsEdges.allSeen().forget(6), 6);
        Sentence.of(28, "BAD.");
        Twins.bad("forget", (x, a) -> x.forget(a[0]), new int[] {0}, 0, -1, 3, 6);
        Due.due("forget(1) of none", new CoachCourt().forget(1), -1);
        Due.due("forget(7) of 6", TermsEdges.allSeen().forget(7), -1);
    }

    private static int turnedBy(String text, int... seen) {
        CoachCourt c = Due.told(text);
        for (int i = 0; i < seen.length; i += 2) {
            c.see(seen[i], seen[i + 1]);
        }
        return c.turned();
    }

    private static void turned() {
        Sentence.of(29, "MILES (bits) any of which, just its LAND and that of the next one being changed, makes all as SEEN");
        Due.due("by MILE 1", turnedBy(ROAD, 0, 1), 3);
        Due.due("by NONE", turnedBy(ROAD, 0, -4), 0);
        Due.due("by a MILE that there is not", turnedBy(ROAD, 0, 7), 0);
        Due.due("one MILE, not as SEEN", turnedBy("mile 0 0;plain 9 1 0 0;", 0, -4), 0);
        String last = "mile 1 0;mile 1 0;mile 1 0;mile 1 0;mile 1 0;mile 1 0;mile 1 0;mile 0 0;plain 99 1 0 0;";
        Due.due("the last signpost of 8 MILES", turnedBy(last, 0, 6), 64);
        Due.due("all as SEEN, not some", turnedBy(ROAD + "plain 99 1 1 0;", 0, 1, 1, 2), 2);
        Twins.asked("turned", (x, a) -> x.turned());
        Sentence.of(29, "256 more, if none need be.");
        Due.due("by MILE 2", turnedBy(ROAD, 0, 2), 256);
        Due.due("nothing SEEN", turnedBy(ROAD), 256 + 3);
        Due.due("nothing SEEN of 8 MILES", turnedBy(RoadEdges.EIGHT), 256 + 127);
        Due.due("nothing SEEN of one MILE", turnedBy("mile 0 0;"), 256);
        Due.due("nothing SEEN of no road", new CoachCourt().turned(), 256);
        Due.due("LANDS that are alike", turnedBy("mile 0 0;mile 0 0;plain 9 1 0 0;", 0, 0), 256 + 1);
    }

    private static void laws() {
        Sentence.of(30, "LAWS (bits) of a PARTY by which, all else as it is, all is as SEEN.");
        CoachCourt c = Due.told("mile 0 0;mile 1 0;mile 3 0;plain 99 1 0 0;plain 99 1 1 0;");
        Due.due("nothing SEEN", c.laws(0), 15);
        int[][] due = {{0, 1}, {1, 2}, {2, 8}, {-4, 4}, {7, 0}};
        for (int[] d : due) {
            c.see(0, d[0]);
            Due.due("laws(0) by " + d[0], c.laws(0), d[1]);
            c.forget(0);
        }
        c.see(1, 0);
        Due.due("another is not as SEEN", c.laws(0), 0);
        Due.due("it would be by LAW 0", c.laws(1), 1);
        c.see(0, 0);
        Due.due("both", c.laws(1), 1);
        Twins.asked("laws", (x, a) -> x.laws(a[0]), 3);
        Sentence.of(30, "BAD.");
        Twins.bad("laws", (x, a) -> x.laws(a[0]), new int[] {0}, 0, -1, 4);
        Due.due("laws(0) of nobody", Due.told("mile 0 0;").laws(0), -1);
    }

    private static void look() {
        Sentence.of(31, "Of whom to look at the VERDICT, so that of those signposts that may be turned (none among them) fewest are left at the worst (by its MILE, or none)");
        SeenTest.look("MILE 2, or MILE 1 twice", Due.told(ROAD), 0, 2);
        SeenTest.look("MILE 0, or none", Due.told("mile 0 0;mile 1 0;plain 3 1 1 0;"), 0, 1);
        SeenTest.look("fewest by the second", Due.told(ROAD + "plain 99 1 1 0;"), 1, 1);
        CoachCourt c = Due.told(ROAD + "plain 99 1 1 0;");
        c.see(0, 1);
        SeenTest.look("two are left, apart", c, 1, 1);
        Twins.asked("look", (x, a) -> x.look(a[0]), 0);
        Sentence.of(31, "fewer than now");
        c.forget(0);
        c.see(1, 0);
        SeenTest.look("one is left", c, -4, -4);
        SeenTest.look("all alike", Due.told("mile 0 0;mile 1 0;plain 99 1 2 0;"), -4, -4);
        Sentence.of(31, "the first PARTY (what 0)");
        Due.due("two that are alike", Due.told(ROAD + "plain 99 1 0 1;").look(0), 0);
        Due.due("the last of four", Due.told("mile 0 0;mile 1 0;" + "plain 9 1 3 0;".repeat(3) + "plain 3 1 1 0;").look(0), 3);
        Due.due("none of four", Due.told("mile 0 0;mile 1 0;" + "plain 9 1 3 0;".repeat(4)).look(0), -4);
        Due.due("the first that helps", Due.told("mile 0 0;mile 1 0;plain 9 1 3 0;plain 3 1 1 0;plain 3 1 1 0;").look(0), 1);
        Sentence.of(31, "how many these are (1).");
        Due.due("one of two", Due.told("mile 0 0;mile 1 0;plain 3 1 1 0;").look(1), 1);
        Due.due("seven of eight", Due.told("mile 1 0;mile 1 0;mile 1 0;mile 1 0;mile 1 0;mile 1 0;mile 1 0;mile 0 0;plain 2 1 0 7;").look(1), 7);
    }

    private static void lookRefused() {
        Sentence.of(31, "BAD");
        Twins.bad("look", (x, a) -> x.look(a[0]), new int[] {0}, 0, -1, 2);
        Sentence.of(31, "NONE: of nobody.");
        SeenTest.look("no road", new CoachCourt(), -4, -4);
        SeenTest.look("nobody", Due.told("mile 0 0;mile 1 0;"), -4, -4);
        SeenTest.look("one MILE", Due.told("mile 0 0;plain 9 1 0 0;"), -4, -4);
        CoachCourt c = Due.told(ROAD);
        c.see(0, 7);
        SeenTest.look("none is left", c, -4, -4);
    }

    /** The same steps, taken by stand() and with numbers too wide to wrap by themselves. */
    private static void drift(int seed, int n) {
        CoachCourt steps = Due.told(DRIFT);
        CoachCourt asked = Due.told(DRIFT);
        long state = seed & 0xffffffffL;
        int total = 0;
        for (int i = 0; i < n; i++) {
            state = (state * 1103515245L + 12345) % (1L << 32);
            int p = (int) (state / 65536 % 32768 % 3);
            state = (state * 1103515245L + 12345) % (1L << 32);
            steps.stand(p, (int) (state / 65536 % 32768 % 5));
            total += steps.sum(0);
        }
        Due.due("drift(" + seed + ", " + n + ", 0)", asked.drift(seed, n, 0), total);
        Due.due("drift(" + seed + ", " + n + ", 1)", asked.drift(seed, n, 1), steps.sum(1));
    }

    private static void drift() {
        Sentence.of(32, "By itself, n times (1 to 60) by a seed");
        for (int n = 1; n <= 60; n++) {
            drift(n * n, n);
        }
        Twins.asked("drift", (x, a) -> x.drift(a[0], a[1], a[2]), 5, 60, 0);
        Sentence.of(32, "the seed becomes seed times 1103515245 and 12345");
        int[] seeds = {0, 1, -1, 2, -2, 65535, 65536, -65536, 1 << 30, Integer.MAX_VALUE, Integer.MIN_VALUE, Integer.MIN_VALUE + 1};
        for (int seed : seeds) {
            drift(seed, 1);
            drift(seed, 7);
        }
        Sentence.of(32, "bits 16 to 30 of it modulo PARTIES is one, then (once more) modulo MILES where it STANDS");
        for (int seed = 0; seed < 200; seed++) {
            drift(seed * 77777777, 2);
        }
        Sentence.of(32, "VERDICTS of THE DRIVE behind each, summed (what 0)");
        CoachCourt one = Due.told("mile 0 0;plain 9 1 0 0;");
        Due.due("one each", one.drift(1, 1, 0), 1);
        Due.due("sixty in all", one.drift(1, 60, 0), 60);
        CoachCourt all = Due.told("mile 0 0;plain 9 1 0 0;plain 9 1 0 0;plain 9 1 0 0;plain 9 1 0 0;");
        Due.due("four times sixty", all.drift(1, 60, 0), 240);
        Sentence.of(32, "of whom in the end (1; bits).");
        Due.due("of all", all.drift(1, 60, 1), 15);
        all.alter(1, 3, 1);
        Due.due("of all but one", all.drift(1, 60, 1), 13);
        all.set(3, 0);
        Due.due("of nobody", all.drift(1, 60, 1), 0);
    }

    private static void driftRefused() {
        Sentence.of(32, "BAD");
        Twins.bad("drift", (x, a) -> x.drift(a[0], a[1], a[2]), new int[] {1, 1, 0}, 1, -1, 0, 61);
        Twins.bad("drift", (x, a) -> x.drift(a[0], a[1], a[2]), new int[] {1, 1, 0}, 2, -1, 2);
        Sentence.of(32, "STATE: there are no PARTIES or no MILES.");
        Due.due("no PARTIES", Due.told("mile 0 0;").drift(1, 1, 0), -2);
        Due.due("no PARTIES, no MILES", new CoachCourt().drift(1, 60, 1), -2);
    }
}
