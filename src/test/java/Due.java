/** What the tests share: answers that are due, and courts that have been told a text. */
final class Due {
    private static int asked = 0;
    private static int wrong = 0;

    private Due() { }

    static void due(String call, long got, long want) {
        asked++;
        if (got != want) {
            wrong++;
            System.out.println(call + " answered " + got + ", due is " + want);
        }
    }

    static int asked() {
        return asked;
    }

    static void feed(CoachCourt court, String text) {
        for (int i = 0; i < text.length(); i++) {
            court.feed(text.charAt(i));
        }
    }

    static int tell(CoachCourt court, String text) {
        feed(court, text);
        return court.text();
    }

    /** A court that has been told a text without a fault. */
    static CoachCourt told(String text) {
        CoachCourt court = new CoachCourt();
        int lines = tell(court, text);
        if (lines < 0) {
            due("text() of " + text, lines, 0);
        }
        return court;
    }

    /** A text that has a fault: where, and which. */
    static void faulty(String text, int place, int fault) {
        CoachCourt court = told("mile 1 2;plain 33 4 1 0;");
        due("text() of '" + text + "'", tell(court, text), -10 - place);
        due("fault() of '" + text + "'", court.fault(), fault);
        due("rule(0) behind '" + text + "'", court.rule(0), 1);
        due("party(0, 1) behind '" + text + "'", court.party(0, 1), 33);
        due("count(3) behind '" + text + "'", court.count(3), 0);
    }

    static void close(String name) {
        System.out.println(name + ": " + (asked - wrong) + " answers as due, " + wrong + " not");
        if (wrong != 0) {
            System.exit(1);
        }
    }
}
