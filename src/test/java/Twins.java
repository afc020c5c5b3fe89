import java.util.ArrayList;
import java.util.Arrays;
import java.util.List;
import java.util.function.Supplier;

/** Two courts alike: what is asked of one of them alone must not show in whatever is then asked of both. */
final class Twins {
    /** A call with numbers for its arguments. */
    interface Call {
        long on(CoachCourt court, int... a);
    }

    // What can only be asked by changing something is asked of twins of their own, so that 512 calls are enough.
    private static final int SEEN_AT_ONCE = 0, TAPE = 1, SHEETS = 2, IMAGES = 3, WAYS = 4;

    private Twins() { }

    /** A court of which nothing is as at first: 5 miles, 4 parties, 2 SEEN, 2 IMAGES, 3 SHEETS, 18 bytes, a FAULT, a torn SHEET. */
    static CoachCourt busy() {
        CoachCourt c = Due.told("mile 0 0;mile 1 1;mile 2 2;mile 0 3;mile 1 0;mud 1;mud 4;"
            + "plain 60 3 1 0;rider 50 9 0 1;lame 70 4 2 2;counsel 80 5 1 1;room 3;snow 40;");
        c.see(0, 1);
        c.keep(0);
        c.pave(0, 0, 3);
        c.alter(3, 0, 0);
        c.set(2, 2);
        c.stand(2, 1);
        c.see(1, -4);
        c.keep(1);
        c.turn(2);
        c.alter(1, 1, 33);
        c.forget(1);
        c.see(2, 3);
        for (int k = 0; k < 3; k++) {
            c.sheet(k, k, 4 - k);
            for (int i = 0; i < 4 - k; i++) {
                c.lay(k, i, (i + k + 1) % 4);
            }
        }
        c.read(3, 0, 0, 1);
        Due.tell(c, "mud x;");
        Due.feed(c, "mile 3 3;mile 2 1;");
        return c;
    }

    /** A call that has an answer which is due, and changes nothing. */
    static void unchanged(String told, Supplier<CoachCourt> maker, long due, Call call, int... a) {
        String name = told + Arrays.toString(a);
        for (int way = 0; way < WAYS; way++) {
            CoachCourt asked = maker.get();
            CoachCourt left = maker.get();
            Due.due(name, call.on(asked, a), due);
            alike(name, asked, left, way);
        }
    }

    /** A call that changes nothing, whatever it answers; one more twin answers alike. */
    static void asked(String told, Call call, int... a) {
        unchanged(told, Twins::busy, call.on(busy(), a), call, a);
    }

    static void alike(String told, Supplier<CoachCourt> one, Supplier<CoachCourt> other) {
        for (int way = 0; way < WAYS; way++) {
            alike(told, one.get(), other.get(), way);
        }
    }

    private static void alike(String told, CoachCourt one, CoachCourt other, int way) {
        List<Long> first = reveal(one, way);
        List<Long> second = reveal(other, way);
        Due.due(told + " changes nothing: " + first + " / " + second, first.equals(second) ? 1 : 0, 1);
    }

    /** A busy court says BAD to values at one place among arguments that are right, and to the ends of int there. */
    static void bad(String told, Call call, int[] right, int place, int... values) {
        int[] wrong = Arrays.copyOf(values, values.length + 2);
        wrong[values.length] = Integer.MIN_VALUE;
        wrong[values.length + 1] = Integer.MAX_VALUE;
        for (int v : wrong) {
            int[] a = right.clone();
            a[place] = v;
            unchanged(told, Twins::busy, CoachCourt.BAD, call, a);
        }
    }

    private static List<Long> reveal(CoachCourt c, int way) {
        List<Long> all = new ArrayList<>();
        switch (way) {
            case SEEN_AT_ONCE:
                revealAtOnce(c, all);
                break;
            case TAPE:
                all.add((long) c.count(3));
                all.add((long) c.text());
                revealAtOnce(c, all);
                break;
            case SHEETS:
                revealSheets(c, all);
                break;
            default:
                for (int k = 0; k < 2; k++) {
                    all.add((long) c.back(k));
                    revealAtOnce(c, all);
                }
                break;
        }
        return all;
    }

    private static void revealAtOnce(CoachCourt c, List<Long> all) {
        for (int what = 0; what < 6; what++) {
            all.add((long) c.rule(what));
            all.add((long) c.count(what));
        }
        for (int i = 0; i < 40; i++) {
            all.add((long) c.mile(i / 5, i % 5));
        }
        for (int i = 0; i < 20; i++) {
            all.add((long) c.party(i / 5, i % 5));
        }
        for (int i = 0; i < 16; i++) {
            all.add((long) c.fate(i / 4, i % 4));
        }
        for (int p = 0; p < 4; p++) {
            all.add((long) c.laws(p));
        }
        all.add((long) c.turned());
        all.add((long) c.fault());
        all.add((long) c.torn());
    }

    private static void revealSheets(CoachCourt c, List<Long> all) {
        for (int i = 0; i < 48; i++) {
            int came = c.read(i / 12, i / 4 % 3, i % 4, 1);
            all.add((long) came);
            all.add((long) c.torn());
            for (int p = 0; p < 4 && came == 1; p++) {
                all.add((long) c.party(p, 4));
            }
        }
    }
}
