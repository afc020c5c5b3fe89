import java.math.BigInteger;
import java.util.ArrayList;
import java.util.Arrays;
import java.util.HashMap;
import java.util.List;
import java.util.Map;

/**
 * The document's words once more, in the plainest Java and with the whole library, as a second opinion:
 * drives go mile by mile, all ways are tried, nothing is shared with CoachCourt.
 */
final class PlainCourt {
    static final int BAD = -1, STATE = -2, FULL = -3, NONE = -4;

    static final class World {
        final List<int[]> miles = new ArrayList<>();
        final List<int[]> parties = new ArrayList<>();
        final List<int[]> seen = new ArrayList<>();
        int room = 4;
        int snow = 99;

        World copy() {
            World w = new World();
            for (int[] m : miles) w.miles.add(m.clone());
            for (int[] p : parties) w.parties.add(p.clone());
            for (int[] s : seen) w.seen.add(s.clone());
            w.room = room;
            w.snow = snow;
            return w;
        }

        int minutes(int m) {
            int[] x = miles.get(m);
            return 2 + 2 * x[1] + (x[2] == 1 ? 3 : 0);
        }

        int hearing(int m) {
            int[] x = miles.get(m);
            return x[1] == 0 && x[2] == 0 ? minutes(m) / 2 : minutes(m);
        }

        int strain(int p, int m) {
            int plain = minutes(m) + miles.get(m)[1];
            int kind = parties.get(p)[0];
            return kind == 1 ? plain / 2 : kind == 2 ? plain * 2 : plain;
        }
    }

    static final class Trip {
        final int[] verdict, fall, heard, left;
        final int[] beside;
        int driven = 0;

        Trip(World w) {
            int n = w.parties.size();
            verdict = new int[n];
            fall = new int[n];
            heard = new int[n];
            left = new int[n];
            beside = new int[w.miles.size()];
            Arrays.fill(verdict, NONE);
            Arrays.fill(fall, NONE);
            for (int p = 0; p < n; p++) left[p] = w.parties.get(p)[1];
            int minute = 0;
            for (int m = 0; m < w.miles.size(); m++) {
                if (minute >= w.snow) break;
                driven++;
                minute += w.minutes(m);
                int land = w.miles.get(m)[0];
                for (int p = 0; p < n; p++) {
                    int[] x = w.parties.get(p);
                    boolean ran = m > 0 && (beside[m - 1] >> p & 1) == 1 && verdict[p] == NONE;
                    if (x[4] != m && !ran) continue;
                    boolean may = Integer.bitCount(beside[m]) < w.room && left[p] >= w.strain(p, m);
                    if (x[0] == 3 && ran && w.miles.get(m - 1)[0] != land) may = false;
                    if (!may) {
                        fall[p] = m;
                        continue;
                    }
                    beside[m] |= 1 << p;
                    left[p] -= w.strain(p, m);
                    if (land == x[3]) heard[p] += w.hearing(m);
                    if (heard[p] >= x[2]) verdict[p] = m;
                }
            }
        }

        int many() {
            int k = 0;
            for (int v : verdict) if (v != NONE) k++;
            return k;
        }

        static int bits(int[] row) {
            int b = 0;
            for (int p = 0; p < row.length; p++) if (row[p] != NONE) b += 1 << p;
            return b;
        }
    }

    World w = new World();
    final StringBuilder tape = new StringBuilder();
    int fault = 0;
    int torn = 0;
    final World[] images = new World[2];
    final long[][] sheets = new long[4][];
    final int[] lanes = new int[4];

    int feed(int c) {
        if (c < 0 || c > 127) return BAD;
        if (tape.length() == 160) return FULL;
        tape.append((char) c);
        return tape.length();
    }

    int end(int n) {
        if (n < 0 || n > tape.length()) return BAD;
        int had = tape.length();
        tape.setLength(n);
        return had;
    }

    // ---- the text, with faults thrown up to text()

    static final class Fault extends Exception {
        private static final long serialVersionUID = 1L;
        final int number, place;

        Fault(int number, int place) {
            this.number = number;
            this.place = place;
        }
    }

    private String told;
    private int pos, start;

    private String token() throws Fault {
        while (pos < told.length() && told.charAt(pos) == ' ') pos++;
        start = pos;
        if (pos == told.length()) return "";
        String rest = told.substring(pos);
        String name = rest.replaceAll("(?s)[^a-z].*", "");
        String number = rest.replaceAll("(?s)[^0-9].*", "");
        if (number.length() > 2) throw new Fault(1, pos);
        String t = !name.isEmpty() ? name : !number.isEmpty() ? number : rest.startsWith(";") ? ";" : null;
        if (t == null) throw new Fault(1, pos);
        pos += t.length();
        return t;
    }

    private int number(int low, int high) throws Fault {
        String t = token();
        if (!t.matches("[0-9]+")) throw new Fault(2, start);
        int v = Integer.parseInt(t);
        if (v < low || v > high) throw new Fault(3, start);
        return v;
    }

    private World parse(int[] lines) throws Fault {
        World d = new World();
        Map<Integer, Boolean> mud = new HashMap<>();
        boolean room = false, snow = false;
        while (true) {
            String t = token();
            int at = start;
            if (t.isEmpty()) break;
            int kind = Arrays.asList("plain", "rider", "lame", "counsel").indexOf(t);
            if (kind >= 0) {
                if (d.parties.size() == 4) throw new Fault(5, at);
                d.parties.add(new int[] {kind, number(0, 99), number(1, 20), number(0, 3), number(0, 7)});
            } else if (t.equals("mile")) {
                if (d.miles.size() == 8) throw new Fault(5, at);
                d.miles.add(new int[] {number(0, 3), number(0, 3), 0});
            } else if (t.equals("mud")) {
                int m = number(0, 7);
                if (mud.put(m, true) != null) throw new Fault(4, start);
            } else if (t.equals("room")) {
                if (room) throw new Fault(4, at);
                room = true;
                d.room = number(1, 4);
            } else if (t.equals("snow")) {
                if (snow) throw new Fault(4, at);
                snow = true;
                d.snow = number(0, 99);
            } else {
                throw new Fault(2, at);
            }
            if (!token().equals(";")) throw new Fault(2, start);
            lines[0]++;
        }
        for (int m : mud.keySet()) {
            if (m >= d.miles.size()) throw new Fault(6, told.length());
            d.miles.get(m)[2] = 1;
        }
        for (int[] p : d.parties) if (p[4] >= d.miles.size()) throw new Fault(6, told.length());
        return d;
    }

    int text() {
        told = tape.toString();
        tape.setLength(0);
        pos = 0;
        int[] lines = {0};
        try {
            w = parse(lines);
        } catch (Fault f) {
            fault = f.number;
            return -10 - f.place;
        }
        fault = 0;
        images[0] = null;
        images[1] = null;
        return lines[0];
    }

    int fault() {
        return fault;
    }

    boolean noMile(int m) {
        return m < 0 || m >= w.miles.size();
    }

    boolean noParty(int p) {
        return p < 0 || p >= w.parties.size();
    }

    int rule(int what) {
        if (what == 0) return w.miles.size();
        if (what == 1) return w.parties.size();
        if (what == 2) return w.room;
        if (what == 3) return w.snow;
        if (what == 4) {
            int s = 0;
            for (int m = 0; m < w.miles.size(); m++) s += w.minutes(m);
            return s;
        }
        return what == 5 ? new Trip(w).driven : BAD;
    }

    int mile(int m, int what) {
        if (noMile(m) || what < 0 || what > 4) return BAD;
        return what < 3 ? w.miles.get(m)[what] : what == 3 ? w.minutes(m) : w.hearing(m);
    }

    int party(int p, int what) {
        return noParty(p) || what < 0 || what > 4 ? BAD : w.parties.get(p)[what];
    }

    int strain(int p, int m) {
        return noParty(p) || noMile(m) ? BAD : w.strain(p, m);
    }

    int pave(int m, int what, int v) {
        if (noMile(m) || what < 0 || what > 2 || v < 0 || v > (what == 2 ? 1 : 3)) return BAD;
        int was = w.miles.get(m)[what];
        w.miles.get(m)[what] = v;
        return was;
    }

    int alter(int p, int what, int v) {
        if (noParty(p) || what < 0 || what > 3) return BAD;
        if (v < (what == 2 ? 1 : 0) || v > (what == 1 ? 99 : what == 2 ? 20 : 3)) return BAD;
        int was = w.parties.get(p)[what];
        w.parties.get(p)[what] = v;
        return was;
    }

    int stand(int p, int m) {
        if (noParty(p) || noMile(m)) return BAD;
        int was = w.parties.get(p)[4];
        w.parties.get(p)[4] = m;
        return was;
    }

    int set(int what, int v) {
        int was;
        if (what == 2 && v >= 1 && v <= 4) {
            was = w.room;
            w.room = v;
        } else if (what == 3 && v >= 0 && v <= 99) {
            was = w.snow;
            w.snow = v;
        } else {
            return BAD;
        }
        return was;
    }

    static void swap(World x, int m) {
        int land = x.miles.get(m)[0];
        x.miles.get(m)[0] = x.miles.get(m + 1)[0];
        x.miles.get(m + 1)[0] = land;
    }

    int turn(int m) {
        if (noMile(m) || m == w.miles.size() - 1) return BAD;
        swap(w, m);
        return w.miles.get(m)[0];
    }

    int fate(int p, int what) {
        if (noParty(p) || what < 0 || what > 3) return BAD;
        Trip t = new Trip(w);
        return new int[] {t.verdict[p], t.fall[p], t.heard[p], t.left[p]}[what];
    }

    int beside(int m) {
        return noMile(m) ? BAD : new Trip(w).beside[m];
    }

    int sum(int what) {
        if (what < 0 || what > 4) return BAD;
        Trip t = new Trip(w);
        if (what == 0) return t.many();
        if (what == 1) return Trip.bits(t.verdict);
        if (what == 2) return Arrays.stream(t.verdict).max().orElse(NONE);
        if (what == 3) return Arrays.stream(t.heard).sum();
        return Trip.bits(t.fall);
    }

    int best(int what) {
        if (what != 0 && (what < 10 || noParty(what - 10))) return BAD;
        int k = w.miles.size(), n = w.parties.size();
        if (k == 0) return STATE;
        World x = w.copy();
        int most = -1;
        int[] stones = new int[n];
        int ways = (int) Math.pow(k, n);
        for (int way = 0; way < ways; way++) {
            int rest = way;
            for (int p = n - 1; p >= 0; p--) {
                x.parties.get(p)[4] = rest % k;
                rest /= k;
            }
            int many = new Trip(x).many();
            if (many > most) {
                most = many;
                for (int p = 0; p < n; p++) stones[p] = x.parties.get(p)[4];
            }
        }
        return what == 0 ? most : stones[what - 10];
    }

    int place(int p, int what) {
        if (noParty(p) || what < 0 || what > 1) return BAD;
        int[] found = {NONE, NONE};
        for (int v = w.miles.size() - 1; v >= 0; v--) {
            for (int s = 0; s < w.miles.size(); s++) {
                World x = w.copy();
                x.parties.get(p)[4] = s;
                if (new Trip(x).verdict[p] == v) found = new int[] {s, v};
            }
        }
        return found[what];
    }

    int never() {
        int b = 0;
        for (int p = 0; p < w.parties.size(); p++) if (place(p, 0) == NONE) b |= 1 << p;
        return b;
    }

    int oats(int p) {
        if (noParty(p)) return BAD;
        World x = w.copy();
        for (int v = 0; v <= 99; v++) {
            x.parties.get(p)[1] = v;
            if (new Trip(x).verdict[p] != NONE) return v;
        }
        return NONE;
    }

    int room() {
        World x = w.copy();
        x.room = 4;
        int due = new Trip(x).many();
        int least = 4;
        for (int r = 4; r >= 1; r--) {
            x.room = r;
            if (new Trip(x).many() == due) least = r;
        }
        return least;
    }

    int snow() {
        World x = w.copy();
        x.snow = 99;
        int due = new Trip(x).many();
        int least = 99;
        for (int s = 99; s >= 0; s--) {
            x.snow = s;
            if (new Trip(x).many() == due) least = s;
        }
        return least;
    }

    int rain(int what) {
        if (what < 0 || what > 1) return BAD;
        int most = new Trip(w).many(), where = NONE;
        for (int m = 0; m < w.miles.size(); m++) {
            World x = w.copy();
            x.miles.get(m)[2] ^= 1;
            int many = new Trip(x).many();
            if (many > most) {
                most = many;
                where = m;
            }
        }
        return where == NONE || what == 0 ? where : most;
    }

    private long odds(int v, int p, int what) {
        int k = w.miles.size();
        BigInteger above = BigInteger.ZERO;
        World x = w.copy();
        for (int muds = 0; muds < 1 << k; muds++) {
            BigInteger weight = BigInteger.ONE;
            for (int m = 0; m < k; m++) {
                x.miles.get(m)[2] = muds >> m & 1;
                weight = weight.multiply(BigInteger.valueOf((muds >> m & 1) == 1 ? v : 10 - v));
            }
            Trip t = new Trip(x);
            int many = p < 0 ? t.many() : t.verdict[p] != NONE ? 1 : 0;
            above = above.add(weight.multiply(BigInteger.valueOf(many)));
        }
        BigInteger below = BigInteger.TEN.pow(k);
        BigInteger g = above.gcd(below);
        return (what == 0 ? above : below).divide(g).longValueExact();
    }

    long luck(int v, int p, int what) {
        return v < 0 || v > 10 || noParty(p) || what < 0 || what > 1 ? BAD : odds(v, p, what);
    }

    long mean(int v, int what) {
        return v < 0 || v > 10 || what < 0 || what > 1 ? BAD : odds(v, -1, what);
    }

    int see(int p, int m) {
        if (noParty(p) || (m != NONE && (m < 0 || m > 7))) return BAD;
        if (w.seen.size() == 6) return FULL;
        w.seen.add(new int[] {p, m});
        return w.seen.size();
    }

    int forget(int n) {
        if (n < 0 || n > w.seen.size()) return BAD;
        int were = w.seen.size();
        while (w.seen.size() > n) w.seen.remove(w.seen.size() - 1);
        return were;
    }

    private static boolean asSeen(World x) {
        Trip t = new Trip(x);
        return x.seen.stream().allMatch(s -> t.verdict[s[0]] == s[1]);
    }

    /** Worlds that may be, by the bit of turned(). */
    private Map<Integer, World> guesses() {
        Map<Integer, World> all = new HashMap<>();
        if (asSeen(w)) all.put(256, w);
        for (int m = 0; m + 1 < w.miles.size(); m++) {
            World x = w.copy();
            swap(x, m);
            if (asSeen(x)) all.put(1 << m, x);
        }
        return all;
    }

    int turned() {
        return guesses().keySet().stream().mapToInt(i -> i).sum();
    }

    int laws(int p) {
        if (noParty(p)) return BAD;
        int b = 0;
        World x = w.copy();
        for (int law = 0; law < 4; law++) {
            x.parties.get(p)[3] = law;
            if (asSeen(x)) b |= 1 << law;
        }
        return b;
    }

    int look(int what) {
        if (what < 0 || what > 1) return BAD;
        Map<Integer, World> all = guesses();
        int fewest = all.size(), whom = NONE;
        for (int p = 0; p < w.parties.size(); p++) {
            Map<Integer, Integer> groups = new HashMap<>();
            for (World x : all.values()) groups.merge(new Trip(x).verdict[p], 1, Integer::sum);
            int worst = groups.values().stream().mapToInt(i -> i).max().orElse(0);
            if (worst < fewest) {
                fewest = worst;
                whom = p;
            }
        }
        return whom == NONE || what == 0 ? whom : fewest;
    }

    int drift(int seed, int n, int what) {
        if (n < 1 || n > 60 || what < 0 || what > 1) return BAD;
        if (w.parties.isEmpty() || w.miles.isEmpty()) return STATE;
        World x = w.copy();
        int total = 0, last = 0;
        for (int i = 0; i < n; i++) {
            seed = seed * 1103515245 + 12345;
            int p = (seed >> 16 & 32767) % x.parties.size();
            seed = seed * 1103515245 + 12345;
            x.parties.get(p)[4] = (seed >> 16 & 32767) % x.miles.size();
            Trip t = new Trip(x);
            total += t.many();
            last = Trip.bits(t.verdict);
        }
        return what == 0 ? total : last;
    }

    int keep(int k) {
        if (k < 0 || k > 1) return BAD;
        int was = images[k] == null ? 0 : 1;
        images[k] = w.copy();
        return was;
    }

    int back(int k) {
        if (k < 0 || k > 1) return BAD;
        if (images[k] == null) return STATE;
        w = images[k].copy();
        return new Trip(w).many();
    }

    int sheet(int k, int lane, int n) {
        if (k < 0 || k > 3 || lane < 0 || lane > 2 || n > 40) return BAD;
        if (n < 0) return -14;
        sheets[k] = new long[n];
        lanes[k] = lane;
        return 1;
    }

    int lay(int k, int i, int v) {
        if (k < 0 || k > 3) return BAD;
        if (sheets[k] == null) return -11;
        if (i < 0 || i >= sheets[k].length) return -12;
        sheets[k][i] = lanes[k] == 0 ? (byte) v : lanes[k] == 1 ? (short) v : v;
        return 1;
    }

    int read(int k, int lane, int f, int n) {
        if (k < 0 || k > 3 || lane < 0 || lane > 2 || n < 0 || n > 20) return BAD;
        World before = w.copy();
        int found = 0, came = 0;
        for (int i = 0; i < n && found == 0; i++) {
            long second = (long) f + 2L * i + 1;
            if (sheets[k] == null) found = 1;
            else if (lanes[k] != lane) found = 3;
            else if (second - 1 < 0 || second >= sheets[k].length) found = 2;
            else if (stand((int) sheets[k][(int) second - 1], (int) sheets[k][(int) second]) == BAD) {
                w = before;
                return -20 - i;
            } else came++;
        }
        torn = found;
        return came;
    }

    int torn() {
        return torn;
    }

    int count(int what) {
        if (what == 0) return (int) w.miles.stream().filter(m -> m[2] == 1).count();
        if (what == 1) return w.seen.size();
        if (what == 2) return (images[0] == null ? 0 : 1) + (images[1] == null ? 0 : 1);
        if (what == 3) return tape.length();
        if (what == 4) return sheets[0] == null ? NONE : sheets[0].length;
        return what == 5 ? w.parties.stream().mapToInt(p -> p[1]).sum() : BAD;
    }
}
