import java.util.Random;
import java.util.TreeMap;

/** Many runs of calls by a fixed seed: CoachCourt and PlainCourt must answer alike. */
public final class SecondOpinionTest {
    private static final int RUNS = 1500;
    private static final int TEXTS = 20000;
    private static final int CALLS = 512;
    private static final TreeMap<String, TreeMap<Long, Integer>> ANSWERS = new TreeMap<>();

    private final Random dice;
    private final CoachCourt court = new CoachCourt();
    private final PlainCourt plain = new PlainCourt();
    private int calls = 0;

    private SecondOpinionTest(long seed) {
        dice = new Random(seed);
    }

    public static void main(String[] args) {
        for (int run = 0; run < RUNS; run++) {
            new SecondOpinionTest(run).runAll(run);
        }
        for (int run = RUNS; run < RUNS + TEXTS; run++) {
            SecondOpinionTest text = new SecondOpinionTest(run);
            text.tell(run, text.spoilt(text.dice.nextBoolean() ? text.roadText() : text.smallText()));
        }
        if (args.length > 0) {
            ANSWERS.forEach((call, all) -> System.out.println(call + " " + all));
        }
        Due.close("SecondOpinionTest");
    }

    private void runAll(int run) {
        if (dice.nextInt(10) > 0) {
            tell(run, roadText());
        }
        while (calls < CALLS) {
            int way = dice.nextInt(60);
            if (way == 0 && calls < CALLS - 165) {
                tell(run, dice.nextInt(3) == 0 ? roadText() : spoilt(roadText()));
            } else if (way < 5) {
                seeWhatMayBe(run);
            } else {
                callOne(run, dice.nextInt(38));
            }
        }
    }

    /** Sees what a drive shows, at times with one signpost turned, so that there is something to find. */
    private void seeWhatMayBe(int run) {
        PlainCourt.World world = plain.w.copy();
        int p = someParty();
        if (plain.noParty(p)) {
            return;
        }
        if (world.miles.size() > 1 && dice.nextInt(3) > 0) {
            PlainCourt.swap(world, dice.nextInt(world.miles.size() - 1));
        }
        int m = new PlainCourt.Trip(world).verdict[p];
        same(run, "see", p, m, court.see(p, m), plain.see(p, m));
    }

    private void tell(int run, String text) {
        for (int i = 0; i < text.length(); i++) {
            int c = text.charAt(i);
            same(run, "feed", c, 0, court.feed(c), plain.feed(c));
        }
        same(run, "text of '" + plain.tape + "'", 0, 0, court.text(), plain.text());
        same(run, "fault", 0, 0, court.fault(), plain.fault());
    }

    private String roadText() {
        StringBuilder text = new StringBuilder();
        int miles = 1 + dice.nextInt(8), parties = 1 + dice.nextInt(4), lands = 1 + dice.nextInt(3);
        boolean steep = dice.nextBoolean();
        for (int m = 0; m < miles; m++) {
            text.append("mile ").append(dice.nextInt(lands)).append(' ').append(steep ? dice.nextInt(4) : dice.nextInt(2)).append(';');
        }
        for (int p = 0; p < parties; p++) {
            String[] kinds = {"plain", "rider", "lame", "counsel"};
            text.append(kinds[dice.nextInt(4)]).append(' ').append(dice.nextInt(dice.nextBoolean() ? 40 : 100));
            text.append(' ').append(1 + dice.nextInt(dice.nextBoolean() ? 8 : 20)).append(' ').append(dice.nextInt(lands));
            text.append(' ').append(dice.nextInt(miles)).append(';');
        }
        if (dice.nextInt(3) == 0 && text.length() < 150) {
            text.append("mud ").append(dice.nextInt(miles)).append(';');
        }
        if (dice.nextBoolean() && text.length() < 150) {
            text.append("room ").append(1 + dice.nextInt(4)).append(';');
        }
        if (dice.nextInt(3) == 0 && text.length() < 150) {
            text.append("snow ").append(dice.nextInt(60)).append(';');
        }
        return text.toString();
    }

    /** Short lines, many of them told too often. */
    private String smallText() {
        String[] lines = {"mile 0 0;", "mile 0 0;", "mile 3 3;", "mud 0;", "mud 1;", "mud 7;", "room 1;", "snow 9;", "lame 9 9 1 0;",
            "lame 0 1 0 7;", "plain 5 5 2 1;"};
        StringBuilder text = new StringBuilder();
        while (text.length() < 20 + dice.nextInt(120)) {
            text.append(lines[dice.nextInt(lines.length)]);
        }
        return text.toString();
    }

    private String spoilt(String text) {
        String[] bits = {"mile", "mud 7;", "mud 0;", "room 2;", "snow 3;", "plain", "1", "9", " ", ";", "12", "345", "x", "A", "-",
            "mile 0 0;", "lame 9 9 1 0;", "counsel", "8", "  ", "mud", "room", "mud 1;", "00", "20", "21"};
        StringBuilder out = new StringBuilder(text);
        for (int i = dice.nextInt(4); i > 0; i--) {
            int at = dice.nextInt(out.length() + 1);
            if (dice.nextInt(3) == 0) {
                out.delete(at, Math.min(out.length(), at + 1 + dice.nextInt(3)));
            } else if (dice.nextInt(3) == 0) {
                out.setLength(at);
            } else {
                int behind = out.lastIndexOf(";", at);
                out.insert(dice.nextBoolean() ? behind + 1 : at, bits[dice.nextInt(bits.length)]);
            }
        }
        return out.toString();
    }

    private int near(int low, int high) {
        int way = dice.nextInt(24);
        if (way == 0) {
            return low - 1 - dice.nextInt(3);
        }
        if (way == 1) {
            return high + 1 + dice.nextInt(3);
        }
        if (way == 2 && dice.nextInt(4) == 0) {
            return dice.nextBoolean() ? Integer.MAX_VALUE - dice.nextInt(3) : Integer.MIN_VALUE + dice.nextInt(3);
        }
        return low + dice.nextInt(Math.max(high - low + 1, 1));
    }

    private int someParty() {
        return near(0, Math.max(plain.w.parties.size() - 1, 0));
    }

    private int someMile() {
        return near(0, Math.max(plain.w.miles.size() - 1, 0));
    }

    private void same(int run, String name, int a, int b, long got, long want) {
        calls++;
        Due.due("run " + run + ", call " + calls + ": " + name + "(" + a + ", " + b + ")", got, want);
        ANSWERS.computeIfAbsent(name.startsWith("text") ? "text" : name, k -> new TreeMap<>()).merge(want, 1, Integer::sum);
    }

    private void callOne(int run, int which) {
        int p = someParty(), m = someMile(), w1 = near(0, 1), w4 = near(0, 4), k3 = near(0, 3);
        switch (which) {
            case 0: { int c = near(0, 127); same(run, "feed", c, 0, court.feed(c), plain.feed(c)); break; }
            case 1: { int n = near(0, plain.tape.length()); same(run, "end", n, 0, court.end(n), plain.end(n)); break; }
            case 2:
                if (dice.nextInt(20) == 0) {
                    same(run, "text of '" + plain.tape + "'", 0, 0, court.text(), plain.text());
                }
                break;
            case 3: same(run, "fault", 0, 0, court.fault(), plain.fault()); break;
            case 4: { int w = near(0, 5); same(run, "rule", w, 0, court.rule(w), plain.rule(w)); break; }
            case 5: same(run, "mile", m, w4, court.mile(m, w4), plain.mile(m, w4)); break;
            case 6: same(run, "party", p, w4, court.party(p, w4), plain.party(p, w4)); break;
            case 7: same(run, "strain", p, m, court.strain(p, m), plain.strain(p, m)); break;
            case 8: { int w = near(0, 2), v = near(0, 3); same(run, "pave." + w + " to " + v, m, w, court.pave(m, w, v), plain.pave(m, w, v)); break; }
            case 9: { int w = near(0, 3), v = near(0, dice.nextBoolean() ? 3 : w == 1 ? 99 : 20);
                same(run, "alter." + w, p, v, court.alter(p, w, v), plain.alter(p, w, v)); break; }
            case 10: same(run, "stand", p, m, court.stand(p, m), plain.stand(p, m)); break;
            case 11: { int w = near(2, 3), v = near(w == 2 ? 1 : 0, w == 2 ? 4 : 99); same(run, "set", w, v, court.set(w, v), plain.set(w, v)); break; }
            case 12: same(run, "turn", m, 0, court.turn(m), plain.turn(m)); break;
            case 13: same(run, "fate", p, k3, court.fate(p, k3), plain.fate(p, k3)); break;
            case 14: same(run, "beside", m, 0, court.beside(m), plain.beside(m)); break;
            case 15: same(run, "sum." + w4, w4, 0, court.sum(w4), plain.sum(w4)); break;
            case 16: if (dice.nextInt(20) == 0) { int w = dice.nextInt(3) == 0 ? near(0, 0) : 10 + p; same(run, "best", w, 0, court.best(w), plain.best(w)); } break;
            case 17: same(run, "place." + w1, p, w1, court.place(p, w1), plain.place(p, w1)); break;
            case 18: same(run, "never", 0, 0, court.never(), plain.never()); break;
            case 19: same(run, "oats", p, 0, court.oats(p), plain.oats(p)); break;
            case 20: same(run, "room", 0, 0, court.room(), plain.room()); break;
            case 21: same(run, "snow", 0, 0, court.snow(), plain.snow()); break;
            case 22: same(run, "rain." + w1, w1, 0, court.rain(w1), plain.rain(w1)); break;
            case 23: if (dice.nextInt(4) == 0) { int v = near(0, 10); same(run, "luck of " + p, v, w1, court.luck(v, p, w1), plain.luck(v, p, w1)); } break;
            case 24: if (dice.nextInt(4) == 0) { int v = near(0, 10); same(run, "mean", v, w1, court.mean(v, w1), plain.mean(v, w1)); } break;
            case 25: { int at = dice.nextInt(4) == 0 ? -4 : near(0, 7); same(run, "see", p, at, court.see(p, at), plain.see(p, at)); break; }
            case 26: { int n = near(0, plain.w.seen.size()); same(run, "forget", n, 0, court.forget(n), plain.forget(n)); break; }
            case 27: same(run, "turned", 0, 0, court.turned(), plain.turned()); break;
            case 28: same(run, "laws", p, 0, court.laws(p), plain.laws(p)); break;
            case 29: same(run, "look." + w1, w1, 0, court.look(w1), plain.look(w1)); break;
            case 30: { int seed = dice.nextInt(), n = near(1, 60); same(run, "drift by " + seed, n, w1, court.drift(seed, n, w1), plain.drift(seed, n, w1)); break; }
            case 31: same(run, "keep", w1, 0, court.keep(w1), plain.keep(w1)); break;
            case 32: same(run, "back", w1, 0, court.back(w1), plain.back(w1)); break;
            case 33: { int lane = near(0, 2), n = near(0, 40); same(run, "sheet of " + lane, k3, n, court.sheet(k3, lane, n), plain.sheet(k3, lane, n)); break; }
            case 34: for (int i = 0; i < 3; i++) layOne(run, near(0, 3)); break;
            case 35: readOne(run, k3); break;
            case 36: same(run, "torn", 0, 0, court.torn(), plain.torn()); break;
            case 37: { int w = near(0, 5); same(run, "count", w, 0, court.count(w), plain.count(w)); break; }
            default: break;
        }
    }

    private void layOne(int run, int k) {
        int size = k >= 0 && k < 4 && plain.sheets[k] != null ? plain.sheets[k].length : 3;
        int i = near(0, Math.max(size - 1, 0));
        int v = dice.nextInt(8) == 0 ? dice.nextInt() : near(0, 3) + (dice.nextInt(8) == 0 ? 256 << 8 * dice.nextInt(2) : 0);
        same(run, "lay " + v, k, i, court.lay(k, i, v), plain.lay(k, i, v));
    }

    private void readOne(int run, int k) {
        int lane = k >= 0 && k < 4 && dice.nextInt(8) > 0 ? plain.lanes[k] : near(0, 2);
        int size = k >= 0 && k < 4 && plain.sheets[k] != null ? plain.sheets[k].length : 3;
        int f = near(0, size);
        int n = near(0, dice.nextBoolean() ? 3 : 20);
        same(run, "read as " + lane + " from " + f, k, n, court.read(k, lane, f, n), plain.read(k, lane, f, n));
        for (int p = 0; p < plain.w.parties.size(); p++) {
            same(run, "party", p, 4, court.party(p, 4), plain.party(p, 4));
        }
        same(run, "torn", 0, 0, court.torn(), plain.torn());
    }
}
