
/** 'Terms': the answers, which of them comes first, what a refused call leaves as it was, fractions. */
final class TermsEdges {
    private TermsEdges() { }

    static void ask() {
        noSuchNumber();
        otherAnswers();
        firstThatFits();
        refused();
        refusedText();
        lowestTerms();
        nothingByOne();
    }

    private static void noSuchNumber() {
        Sentence.of(Sentence.TERMS, "Answers: BAD -1 (a number is not as told, there is no such MILE, PARTY, IMAGE, SHEET)");
        CoachCourt c = Twins.busy();
        Due.due("BAD", CoachCourt.BAD, -1);
        Due.due("a number that is not as told", c.rule(6), -1);
        Due.due("no such MILE", c.mile(5, 0), -1);
        Due.due("no such PARTY", c.party(4, 0), -1);
        Due.due("no such IMAGE", c.back(2), -1);
        Due.due("no such SHEET", c.lay(4, 0, 0), -1);
    }

    private static void otherAnswers() {
        Sentence.of(Sentence.TERMS, "STATE -2 (as told), FULL -3, NONE -4 (there is none)");
        Due.due("STATE", CoachCourt.STATE, -2);
        Due.due("FULL", CoachCourt.FULL, -3);
        Due.due("NONE", CoachCourt.NONE, -4);
        Due.due("no IMAGE yet", new CoachCourt().back(0), -2);
        Due.due("no room on THE TAPE", fullTape().feed(32), -3);
        Due.due("no MILE for MUD", new CoachCourt().rain(0), -4);
    }

    static CoachCourt fullTape() {
        CoachCourt c = new CoachCourt();
        Due.feed(c, "mile 1 2;" + " ".repeat(151));
        return c;
    }

    static CoachCourt allSeen() {
        CoachCourt c = Due.told("mile 0 0;plain 9 1 0 0;");
        for (int i = 0; i < 6; i++) {
            c.see(0, 0);
        }
        return c;
    }

    private static void firstThatFits() {
        Sentence.of(Sentence.TERMS, "the first that fits");
        CoachCourt none = new CoachCourt();
        Due.due("BAD ahead of STATE: best", none.best(1), -1);
        Due.due("BAD ahead of STATE: drift, n", none.drift(0, 0, 0), -1);
        Due.due("BAD ahead of STATE: drift, what", none.drift(0, 1, 2), -1);
        Due.due("BAD ahead of STATE: back", none.back(2), -1);
        Due.due("BAD ahead of FULL: feed", fullTape().feed(128), -1);
        Due.due("BAD ahead of FULL: see, m", allSeen().see(0, 8), -1);
        Due.due("BAD ahead of FULL: see, p", allSeen().see(1, 0), -1);
        Due.due("BAD ahead of NONE: place", Due.told("mile 0 0;plain 0 1 0 0;").place(0, 2), -1);
        Due.due("BAD ahead of NONE: oats", Due.told("mile 0 0;plain 0 1 1 0;").oats(1), -1);
        Due.due("BAD ahead of NONE: rain", none.rain(2), -1);
        Due.due("BAD ahead of NONE: look", none.look(2), -1);
        Due.due("BAD ahead of SIZE: sheet, k", none.sheet(4, 0, -1), -1);
        Due.due("BAD ahead of SIZE: sheet, lane", none.sheet(0, 3, -1), -1);
        Due.due("BAD ahead of NULL: lay", none.lay(4, -1, 0), -1);
        Due.due("BAD ahead of NULL: read", none.read(0, 0, -1, 21), -1);
        none.sheet(0, 0, 2);
        Due.due("BAD ahead of what stand() refuses", none.read(0, 0, 0, 21), -1);
    }

    private static void refused() {
        Sentence.of(Sentence.TERMS, "what is refused changes nothing");
        Twins.unchanged("feed, FULL", TermsEdges::fullTape, -3, (c, a) -> c.feed(a[0]), 'm');
        Twins.unchanged("see, FULL", TermsEdges::allSeen, -3, (c, a) -> c.see(a[0], a[1]), 0, -4);
        Twins.unchanged("best, STATE", CoachCourt::new, -2, (c, a) -> c.best(a[0]), 0);
        Twins.unchanged("drift, STATE", CoachCourt::new, -2, (c, a) -> c.drift(a[0], a[1], a[2]), 1, 2, 0);
        Twins.unchanged("back, STATE", TermsEdges::allSeen, -2, (c, a) -> c.back(a[0]), 1);
        Twins.unchanged("sheet, SIZE", Twins::busy, -14, (c, a) -> c.sheet(a[0], a[1], a[2]), 0, 2, -1);
        Twins.unchanged("lay, NULL", Twins::busy, -11, (c, a) -> c.lay(a[0], a[1], a[2]), 3, 0, 1);
        Twins.unchanged("lay, INDEX", Twins::busy, -12, (c, a) -> c.lay(a[0], a[1], a[2]), 0, 4, 1);
        Twins.unchanged("read, stand()", TermsEdges::laidWrong, -21, (c, a) -> c.read(a[0], a[1], a[2], a[3]), 1, 0, 0, 3);
        Twins.bad("set", (c, a) -> c.set(a[0], a[1]), new int[] {2, 1}, 1, 0, 5);
        Twins.bad("end", (c, a) -> c.end(a[0]), new int[] {0}, 0, -1, 19);
    }

    /** The second of two that are laid is refused by stand(), and the row ends within the third. */
    private static CoachCourt laidWrong() {
        CoachCourt c = Twins.busy();
        c.sheet(1, 0, 5);
        c.lay(1, 0, 3);
        c.lay(1, 1, 4);
        c.lay(1, 2, 4);
        return c;
    }

    private static void refusedText() {
        Sentence.of(Sentence.TERMS, "(but THE TAPE, as told).");
        Twins.alike("a text with a FAULT", () -> {
            CoachCourt c = Twins.busy();
            Due.due("its place", Due.tell(c, "mud 0;mud;"), -10 - 18 - 9);
            return c;
        }, () -> {
            CoachCourt c = Twins.busy();
            c.end(0);
            return c;
        });
    }

    private static void lowestTerms() {
        Sentence.of(Sentence.TERMS, "Fractions are in lowest terms, the denominator above 0");
        CoachCourt c = Due.told("mile 0 0;plain 99 5 0 0;plain 99 5 0 0;");
        long[][] due = {{1, 1, 10}, {2, 1, 5}, {3, 3, 10}, {4, 2, 5}, {5, 1, 2}, {6, 3, 5}, {7, 7, 10}, {8, 4, 5}, {9, 9, 10}, {10, 1, 1}};
        for (long[] d : due) {
            Due.due("luck above by " + d[0], c.luck((int) d[0], 0, 0), d[1]);
            Due.due("luck below by " + d[0], c.luck((int) d[0], 0, 1), d[2]);
        }
        Due.due("a mean above 1, above", c.mean(8, 0), 8);
        Due.due("a mean above 1, below", c.mean(8, 1), 5);
        Due.due("a mean of 2, above", c.mean(10, 0), 2);
        Due.due("a mean of 2, below", c.mean(10, 1), 1);
    }

    private static void nothingByOne() {
        Sentence.of(Sentence.TERMS, "(0 is 0 by 1).");
        CoachCourt c = Due.told("mile 0 0;mile 0 0;mile 0 0;plain 99 1 3 0;");
        for (int v = 0; v <= 10; v++) {
            Due.due("luck of 0 by " + v + ", above", c.luck(v, 0, 0), 0);
            Due.due("luck of 0 by " + v + ", below", c.luck(v, 0, 1), 1);
            Due.due("mean of 0 by " + v + ", above", c.mean(v, 0), 0);
            Due.due("mean of 0 by " + v + ", below", c.mean(v, 1), 1);
        }
    }
}
