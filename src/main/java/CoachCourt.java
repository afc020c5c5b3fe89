/**
 * A court that moves: a judge hears cases from a driving coach, between milestones.
 *
 * No call makes an object: all rows are made by the constructor and used again, since every call of a run
 * lives in one room. For the same reason each question that supposes a change is asked of one spare road.
 */
public final class CoachCourt {
    public static final int BAD = -1, STATE = -2, FULL = -3, NONE = -4;

    private static final int MILES_MOST = 8, PARTIES_MOST = 4, TAPE_MOST = 160, SEEN_MOST = 6;
    private static final int IMAGES_MOST = 2, SHEETS_MOST = 4, CELLS_MOST = 40, READS_MOST = 20, DRIFTS_MOST = 60;
    private static final int ROOM_LEAST = 1, ROOM_MOST = 4, SNOW_MOST = 99, WIND_MOST = 99, LAW_MOST = 3;

    // What is asked of a mile, with the highest number it may be (the lowest is 0).
    private static final int LAND = 0, HILL = 1, MUD = 2;
    private static final int[] MILE_HIGH = {3, 3, 1};
    // What is asked of a party, with the lowest and the highest number it may be.
    private static final int KIND = 0, WIND = 1, NEED = 2, LAW = 3, STONE = 4;
    private static final int[] PARTY_LOW = {0, 0, 1, 0, 0};
    private static final int[] PARTY_HIGH = {3, 99, 20, 3, 7};
    private static final int PLAIN = 0, RIDER = 1, LAME = 2, COUNSEL = 3;
    // What is asked of a party's fate.
    private static final int VERDICT = 0, FALL = 1, HEARD = 2, LEFT = 3;
    private static final int RULE_ROOM = 2, RULE_SNOW = 3;

    // FAULTS of a text, and FAULTS that a machine finds.
    private static final int UNREADABLE = 1, MISPLACED = 2, OUT_OF_BOUNDS = 3;
    private static final int TOLD_TWICE = 4, TOO_MANY = 5, NO_SUCH_MILE = 6;
    private static final int NULL_FAULT = 1, INDEX_FAULT = 2, CAST_FAULT = 3, SIZE_FAULT = 4;
    private static final int FAULT_BASE = -10, REFUSED_BASE = -20;
    private static final int BYTES = 0, SHORTS = 1, INTS = 2;

    private static final int NOT_TURNED = 256, ANYBODY = -1, ODDS_OF = 10;

    private final Tape tape;
    private final Teller teller;
    private final Road road;
    private final Road trial;
    private final Drive drive;
    private final Seeker seeker;
    private final Sightings seen;
    private final Image[] images;
    private final Sheet[] sheets;
    private final int[] tally;
    private int latestTorn;

    public CoachCourt() {
        tape = new Tape();
        teller = new Teller(tape);
        road = new Road();
        trial = new Road();
        drive = new Drive();
        seeker = new Seeker(trial, drive);
        seen = new Sightings();
        images = new Image[IMAGES_MOST];
        for (int k = 0; k < IMAGES_MOST; k++) {
            images[k] = new Image();
        }
        sheets = new Sheet[SHEETS_MOST];
        for (int k = 0; k < SHEETS_MOST; k++) {
            sheets[k] = new Sheet();
        }
        tally = new int[MILES_MOST + 1];
    }

    // ---- the text

    public int feed(int c) {
        if (!within(c, 0, 127)) {
            return BAD;
        }
        return tape.put(c) ? tape.length : FULL;
    }

    public int end(int n) {
        if (!within(n, 0, tape.length)) {
            return BAD;
        }
        int had = tape.length;
        tape.length = n;
        return had;
    }

    public int text() {
        int answer = teller.tellInto(trial);
        tape.length = 0;
        if (tape.found == 0) {
            road.copyFrom(trial);
            seen.many = 0;
            for (int k = 0; k < IMAGES_MOST; k++) {
                images[k].there = false;
            }
        }
        return answer;
    }

    public int fault() {
        return tape.found;
    }

    public int rule(int what) {
        switch (what) {
            case 0: return road.miles;
            case 1: return road.parties;
            case RULE_ROOM: return road.places;
            case RULE_SNOW: return road.snowfall;
            case 4: return road.minutesOfAll();
            case 5: return road.drivenMiles();
            default: return BAD;
        }
    }

    public int mile(int m, int what) {
        if (!road.hasMile(m) || !within(what, 0, 4)) {
            return BAD;
        }
        if (what == 3) {
            return road.minutesOf(m);
        }
        return what == 4 ? road.hearingOf(m) : road.mileRow(what)[m];
    }

    public int party(int p, int what) {
        if (!road.hasParty(p) || !within(what, KIND, STONE)) {
            return BAD;
        }
        return road.partyRow(what)[p];
    }

    public int strain(int p, int m) {
        if (!road.hasParty(p) || !road.hasMile(m)) {
            return BAD;
        }
        return road.strainOf(p, m);
    }

    // ---- what is changed

    public int pave(int m, int what, int v) {
        if (!road.hasMile(m) || !within(what, LAND, MUD) || !within(v, 0, MILE_HIGH[what])) {
            return BAD;
        }
        int[] row = road.mileRow(what);
        int was = row[m];
        row[m] = v;
        return was;
    }

    public int alter(int p, int what, int v) {
        if (!road.hasParty(p) || !within(what, KIND, LAW) || !within(v, PARTY_LOW[what], PARTY_HIGH[what])) {
            return BAD;
        }
        int[] row = road.partyRow(what);
        int was = row[p];
        row[p] = v;
        return was;
    }

    public int stand(int p, int m) {
        if (!road.hasParty(p) || !road.hasMile(m)) {
            return BAD;
        }
        int was = road.stone[p];
        road.stone[p] = m;
        return was;
    }

    public int set(int what, int v) {
        if (what == RULE_ROOM && within(v, ROOM_LEAST, ROOM_MOST)) {
            int was = road.places;
            road.places = v;
            return was;
        }
        if (what == RULE_SNOW && within(v, 0, SNOW_MOST)) {
            int was = road.snowfall;
            road.snowfall = v;
            return was;
        }
        return BAD;
    }

    public int turn(int m) {
        if (!road.hasSignpost(m)) {
            return BAD;
        }
        road.turnSignpost(m);
        return road.land[m];
    }

    // ---- a drive

    public int fate(int p, int what) {
        if (!road.hasParty(p) || !within(what, VERDICT, LEFT)) {
            return BAD;
        }
        drive.run(road);
        return drive.fateRow(what)[p];
    }

    public int beside(int m) {
        if (!road.hasMile(m)) {
            return BAD;
        }
        drive.run(road);
        return drive.runners[m];
    }

    public int sum(int what) {
        if (!within(what, 0, 4)) {
            return BAD;
        }
        drive.run(road);
        switch (what) {
            case 0: return drive.verdicts();
            case 1: return drive.whoHas(VERDICT);
            case 2: return drive.lastVerdict();
            case 3: return drive.heardInAll();
            default: return drive.whoHas(FALL);
        }
    }

    // ---- what is best

    public int best(int what) {
        boolean ofParty = what >= 10 && road.hasParty(what - 10);
        if (what != 0 && !ofParty) {
            return BAD;
        }
        if (road.miles == 0) {
            return STATE;
        }
        seeker.seekFor(road);
        return ofParty ? seeker.stones[what - 10] : seeker.most;
    }

    public int place(int p, int what) {
        if (!road.hasParty(p) || !within(what, 0, 1)) {
            return BAD;
        }
        int stone = soonestStone(p);
        return what == 0 || stone == NONE ? stone : verdictFrom(p, stone);
    }

    public int never() {
        int bits = 0;
        for (int p = 0; p < road.parties; p++) {
            if (soonestStone(p) == NONE) {
                bits |= 1 << p;
            }
        }
        return bits;
    }

    public int oats(int p) {
        if (!road.hasParty(p)) {
            return BAD;
        }
        trial.copyFrom(road);
        for (int wind = 0; wind <= WIND_MOST; wind++) {
            trial.wind[p] = wind;
            drive.run(trial);
            if (drive.hasVerdict(p)) {
                return wind;
            }
        }
        return NONE;
    }

    public int room() {
        int due = verdictsUnder(ROOM_MOST, road.snowfall);
        int least = ROOM_LEAST;
        while (least < ROOM_MOST && verdictsUnder(least, road.snowfall) != due) {
            least++;
        }
        return least;
    }

    public int snow() {
        int due = verdictsUnder(road.places, SNOW_MOST);
        int least = 0;
        while (least < SNOW_MOST && verdictsUnder(road.places, least) != due) {
            least++;
        }
        return least;
    }

    public int rain(int what) {
        if (!within(what, 0, 1)) {
            return BAD;
        }
        drive.run(road);
        int most = drive.verdicts();
        int where = NONE;
        for (int m = 0; m < road.miles; m++) {
            int many = verdictsWithOtherMud(m);
            if (many > most) {
                most = many;
                where = m;
            }
        }
        return what == 0 || where == NONE ? where : most;
    }

    // ---- mud by odds

    public long luck(int v, int p, int what) {
        if (!within(v, 0, ODDS_OF) || !road.hasParty(p) || !within(what, 0, 1)) {
            return BAD;
        }
        return partOfFraction(weighVerdicts(v, p), power(ODDS_OF, road.miles), what);
    }

    public long mean(int v, int what) {
        if (!within(v, 0, ODDS_OF) || !within(what, 0, 1)) {
            return BAD;
        }
        return partOfFraction(weighVerdicts(v, ANYBODY), power(ODDS_OF, road.miles), what);
    }

    // ---- what was seen

    public int see(int p, int m) {
        if (!road.hasParty(p) || (m != NONE && !within(m, 0, MILES_MOST - 1))) {
            return BAD;
        }
        return seen.put(p, m) ? seen.many : FULL;
    }

    public int forget(int n) {
        if (!within(n, 0, seen.many)) {
            return BAD;
        }
        int were = seen.many;
        seen.many = n;
        return were;
    }

    public int turned() {
        driveIfTurned(NONE);
        int bits = seen.agreeWith(drive) ? NOT_TURNED : 0;
        for (int m = 0; m < road.miles - 1; m++) {
            driveIfTurned(m);
            if (seen.agreeWith(drive)) {
                bits |= 1 << m;
            }
        }
        return bits;
    }

    public int laws(int p) {
        if (!road.hasParty(p)) {
            return BAD;
        }
        int bits = 0;
        trial.copyFrom(road);
        for (int law = 0; law <= LAW_MOST; law++) {
            trial.law[p] = law;
            drive.run(trial);
            if (seen.agreeWith(drive)) {
                bits |= 1 << law;
            }
        }
        return bits;
    }

    public int look(int what) {
        if (!within(what, 0, 1)) {
            return BAD;
        }
        int guesses = turned();
        int fewest = Integer.bitCount(guesses);
        int whom = NONE;
        for (int p = 0; p < road.parties; p++) {
            int left = mostLeftBy(p, guesses);
            if (left < fewest) {
                fewest = left;
                whom = p;
            }
        }
        return what == 0 || whom == NONE ? whom : fewest;
    }

    // ---- by a seed

    public int drift(int seed, int n, int what) {
        if (!within(n, 1, DRIFTS_MOST) || !within(what, 0, 1)) {
            return BAD;
        }
        if (road.parties == 0 || road.miles == 0) {
            return STATE;
        }
        trial.copyFrom(road);
        int state = seed;
        int total = 0;
        for (int i = 0; i < n; i++) {
            state = nextSeed(state);
            int p = drawnOf(state) % road.parties;
            state = nextSeed(state);
            trial.stone[p] = drawnOf(state) % road.miles;
            drive.run(trial);
            total += drive.verdicts();
        }
        return what == 0 ? total : drive.whoHas(VERDICT);
    }

    // ---- images, sheets

    public int keep(int k) {
        if (!within(k, 0, IMAGES_MOST - 1)) {
            return BAD;
        }
        Image image = images[k];
        int was = image.there ? 1 : 0;
        image.there = true;
        image.road.copyFrom(road);
        image.seen.copyFrom(seen);
        return was;
    }

    public int back(int k) {
        if (!within(k, 0, IMAGES_MOST - 1)) {
            return BAD;
        }
        Image image = images[k];
        if (!image.there) {
            return STATE;
        }
        road.copyFrom(image.road);
        seen.copyFrom(image.seen);
        drive.run(road);
        return drive.verdicts();
    }

    public int sheet(int k, int lane, int n) {
        if (!within(k, 0, SHEETS_MOST - 1) || !within(lane, BYTES, INTS) || n > CELLS_MOST) {
            return BAD;
        }
        if (n < 0) {
            return FAULT_BASE - SIZE_FAULT;
        }
        sheets[k].renew(lane, n);
        return 1;
    }

    public int lay(int k, int i, int v) {
        if (!within(k, 0, SHEETS_MOST - 1)) {
            return BAD;
        }
        Sheet sheet = sheets[k];
        int refused = sheet.refusal(sheet.lane, i);
        if (refused != 0) {
            return FAULT_BASE - refused;
        }
        sheet.cells[i] = sheet.cutToLane(v);
        return 1;
    }

    public int read(int k, int lane, int f, int n) {
        if (!within(k, 0, SHEETS_MOST - 1) || !within(lane, BYTES, INTS) || !within(n, 0, READS_MOST)) {
            return BAD;
        }
        Sheet sheet = sheets[k];
        trial.copyFrom(road);
        int came = 0;
        int refused = 0;
        while (came < n && refused == 0) {
            int at = f + 2 * came;
            refused = sheet.refusalOfPair(lane, at);
            if (refused == 0) {
                int p = sheet.cells[at];
                int m = sheet.cells[at + 1];
                if (!trial.hasParty(p) || !trial.hasMile(m)) {
                    return REFUSED_BASE - came;
                }
                trial.stone[p] = m;
                came++;
            }
        }
        road.copyFrom(trial);
        latestTorn = refused;
        return came;
    }

    public int torn() {
        return latestTorn;
    }

    public int count(int what) {
        switch (what) {
            case 0: return road.muddyMiles();
            case 1: return seen.many;
            case 2: return imagesThere();
            case 3: return tape.length;
            case 4: return sheets[0].there ? sheets[0].size : NONE;
            case 5: return road.windOfAll();
            default: return BAD;
        }
    }

    // ---- what the calls above ask

    private static boolean within(int v, int low, int high) {
        return v >= low && v <= high;
    }

    private int verdictFrom(int p, int stone) {
        trial.copyFrom(road);
        trial.stone[p] = stone;
        drive.run(trial);
        return drive.verdict[p];
    }

    private int soonestStone(int p) {
        int soonest = MILES_MOST;
        int stone = NONE;
        for (int m = 0; m < road.miles; m++) {
            int verdict = verdictFrom(p, m);
            if (verdict != NONE && verdict <= soonest) {
                soonest = verdict;
                stone = m;
            }
        }
        return stone;
    }

    private int verdictsUnder(int places, int snowfall) {
        trial.copyFrom(road);
        trial.places = places;
        trial.snowfall = snowfall;
        drive.run(trial);
        return drive.verdicts();
    }

    private int verdictsWithOtherMud(int m) {
        trial.copyFrom(road);
        trial.mud[m] = 1 - road.mud[m];
        drive.run(trial);
        return drive.verdicts();
    }

    /** Verdicts of one party, or of anybody, summed over all muds, each as often as it comes among ten to the miles. */
    private long weighVerdicts(int v, int p) {
        long total = 0;
        trial.copyFrom(road);
        for (int muds = 0; muds < 1 << road.miles; muds++) {
            int muddy = Integer.bitCount(muds);
            long weight = power(v, muddy) * power(ODDS_OF - v, road.miles - muddy);
            if (weight != 0) {
                trial.putMuds(muds);
                drive.run(trial);
                total += weight * verdictsOf(p);
            }
        }
        return total;
    }

    private int verdictsOf(int p) {
        if (p == ANYBODY) {
            return drive.verdicts();
        }
        return drive.hasVerdict(p) ? 1 : 0;
    }

    private static long power(int base, int times) {
        long product = 1;
        for (int i = 0; i < times; i++) {
            product *= base;
        }
        return product;
    }

    private static long partOfFraction(long above, long below, int what) {
        long common = commonDivisor(above, below);
        if (common == 0) {
            return 0;
        }
        return (what == 0 ? above : below) / common;
    }

    private static long commonDivisor(long a, long b) {
        long larger = a;
        long smaller = b;
        // Euclid's rest halves every second step, so a long is through well before 200.
        for (int step = 0; step < 200 && smaller != 0; step++) {
            long rest = larger % smaller;
            larger = smaller;
            smaller = rest;
        }
        return larger;
    }

    /** Drives with one signpost turned, or with none of them if there is no such one. */
    private void driveIfTurned(int m) {
        trial.copyFrom(road);
        if (trial.hasSignpost(m)) {
            trial.turnSignpost(m);
        }
        drive.run(trial);
    }

    /** How many of the guesses are left at the worst, once it is known in which mile a party has its verdict. */
    private int mostLeftBy(int p, int guesses) {
        for (int i = 0; i < tally.length; i++) {
            tally[i] = 0;
        }
        int most = 0;
        // A guess's bit names its signpost; the bit of NOT_TURNED lies behind the last one and so turns nothing.
        for (int m = 0; m <= MILES_MOST; m++) {
            if ((guesses >> m & 1) != 0) {
                driveIfTurned(m);
                int verdict = drive.verdict[p];
                int group = within(verdict, 0, MILES_MOST - 1) ? verdict : MILES_MOST;
                tally[group]++;
                most = Math.max(most, tally[group]);
            }
        }
        return most;
    }

    private static int nextSeed(int seed) {
        return seed * 1103515245 + 12345;
    }

    private static int drawnOf(int seed) {
        return seed >>> 16 & 0x7fff;
    }

    private int imagesThere() {
        int many = 0;
        for (int k = 0; k < IMAGES_MOST; k++) {
            many += images[k].there ? 1 : 0;
        }
        return many;
    }

    /**
     * THE ROAD: miles, parties, ROOM (places) and SNOW (snowfall). The Teller refuses a mile or party for which
     * the rows have no place, so whatever hasMile or hasParty affirms is an index of its rows.
     */
    private static final class Road {
        private final int[] land = new int[MILES_MOST];
        private final int[] hill = new int[MILES_MOST];
        private final int[] mud = new int[MILES_MOST];
        private final int[] kind = new int[PARTIES_MOST];
        private final int[] wind = new int[PARTIES_MOST];
        private final int[] need = new int[PARTIES_MOST];
        private final int[] law = new int[PARTIES_MOST];
        private final int[] stone = new int[PARTIES_MOST];
        private int miles;
        private int parties;
        private int places = ROOM_MOST;
        private int snowfall = SNOW_MOST;

        /** Rows keep old numbers behind the last mile and party; only mud may be told of a mile ahead of itself. */
        void wipe() {
            miles = 0;
            parties = 0;
            places = ROOM_MOST;
            snowfall = SNOW_MOST;
            for (int m = 0; m < MILES_MOST; m++) {
                mud[m] = 0;
            }
        }

        void copyFrom(Road other) {
            System.arraycopy(other.land, 0, land, 0, MILES_MOST);
            System.arraycopy(other.hill, 0, hill, 0, MILES_MOST);
            System.arraycopy(other.mud, 0, mud, 0, MILES_MOST);
            System.arraycopy(other.kind, 0, kind, 0, PARTIES_MOST);
            System.arraycopy(other.wind, 0, wind, 0, PARTIES_MOST);
            System.arraycopy(other.need, 0, need, 0, PARTIES_MOST);
            System.arraycopy(other.law, 0, law, 0, PARTIES_MOST);
            System.arraycopy(other.stone, 0, stone, 0, PARTIES_MOST);
            miles = other.miles;
            parties = other.parties;
            places = other.places;
            snowfall = other.snowfall;
        }

        boolean hasMile(int m) {
            return m >= 0 && m < miles;
        }

        boolean hasParty(int p) {
            return p >= 0 && p < parties;
        }

        /** A signpost stands between a mile and the next one: the last mile has none. */
        boolean hasSignpost(int m) {
            return m >= 0 && m < miles - 1;
        }

        int[] mileRow(int what) {
            switch (what) {
                case LAND: return land;
                case HILL: return hill;
                default: return mud;
            }
        }

        int[] partyRow(int what) {
            switch (what) {
                case KIND: return kind;
                case WIND: return wind;
                case NEED: return need;
                case LAW: return law;
                default: return stone;
            }
        }

        void turnSignpost(int m) {
            int first = land[m];
            land[m] = land[m + 1];
            land[m + 1] = first;
        }

        void putMuds(int bits) {
            for (int m = 0; m < miles; m++) {
                mud[m] = bits >> m & 1;
            }
        }

        int minutesOf(int m) {
            return 2 + 2 * hill[m] + 3 * mud[m];
        }

        int hearingOf(int m) {
            boolean dozes = hill[m] == 0 && mud[m] == 0;
            return dozes ? minutesOf(m) / 2 : minutesOf(m);
        }

        int strainOf(int p, int m) {
            int plain = minutesOf(m) + hill[m];
            switch (kind[p]) {
                case RIDER: return plain / 2;
                case LAME: return 2 * plain;
                default: return plain;
            }
        }

        int minutesOfAll() {
            int total = 0;
            for (int m = 0; m < miles; m++) {
                total += minutesOf(m);
            }
            return total;
        }

        int drivenMiles() {
            int begins = 0;
            int driven = 0;
            while (driven < miles && begins < snowfall) {
                begins += minutesOf(driven);
                driven++;
            }
            return driven;
        }

        int muddyMiles() {
            int many = 0;
            for (int m = 0; m < miles; m++) {
                many += mud[m];
            }
            return many;
        }

        int windOfAll() {
            int total = 0;
            for (int p = 0; p < parties; p++) {
                total += wind[p];
            }
            return total;
        }

        /** Whether mud, or somebody, is at a mile that there is not. */
        boolean lacksMile() {
            for (int m = 0; m < MILES_MOST; m++) {
                if (mud[m] != 0 && !hasMile(m)) {
                    return true;
                }
            }
            for (int p = 0; p < parties; p++) {
                if (!hasMile(stone[p])) {
                    return true;
                }
            }
            return false;
        }
    }

    /**
     * A DRIVE. In a mile a party is hindered only by those of lower number who run there already, so each party
     * is driven over all its miles before the next one: that comes to the same as mile by mile.
     */
    private static final class Drive {
        private final int[] verdict = new int[PARTIES_MOST];
        private final int[] fall = new int[PARTIES_MOST];
        private final int[] heard = new int[PARTIES_MOST];
        private final int[] left = new int[PARTIES_MOST];
        private final int[] runners = new int[MILES_MOST];
        private int parties;
        private int driven;

        void run(Road road) {
            begin(road);
            for (int p = 0; p < parties; p++) {
                runParty(road, p);
            }
        }

        void begin(Road road) {
            parties = road.parties;
            driven = road.drivenMiles();
            for (int m = 0; m < MILES_MOST; m++) {
                runners[m] = 0;
            }
        }

        /** Drives one party beside those of lower number; it and those behind it are taken off the road before. */
        void runParty(Road road, int p) {
            setOut(road, p);
            int first = road.stone[p];
            for (int m = first; m < driven; m++) {
                int strain = road.strainOf(p, m);
                boolean crowded = Integer.bitCount(runners[m]) >= road.places;
                boolean getsOff = road.kind[p] == COUNSEL && m > first && road.land[m] != road.land[m - 1];
                if (crowded || getsOff || left[p] < strain) {
                    fall[p] = m;
                    return;
                }
                runners[m] |= 1 << p;
                left[p] -= strain;
                if (road.land[m] == road.law[p]) {
                    heard[p] += road.hearingOf(m);
                }
                if (heard[p] >= road.need[p]) {
                    verdict[p] = m;
                    return;
                }
            }
        }

        private void setOut(Road road, int p) {
            for (int m = 0; m < MILES_MOST; m++) {
                runners[m] &= (1 << p) - 1;
            }
            verdict[p] = NONE;
            fall[p] = NONE;
            heard[p] = 0;
            left[p] = road.wind[p];
        }

        int[] fateRow(int what) {
            switch (what) {
                case VERDICT: return verdict;
                case FALL: return fall;
                case HEARD: return heard;
                default: return left;
            }
        }

        boolean hasVerdict(int p) {
            return verdict[p] != NONE;
        }

        int verdicts() {
            return Integer.bitCount(whoHas(VERDICT));
        }

        /** Who has a mile as its verdict's, or as that of its fall. */
        int whoHas(int what) {
            int[] row = fateRow(what);
            int bits = 0;
            for (int p = 0; p < parties; p++) {
                if (row[p] != NONE) {
                    bits |= 1 << p;
                }
            }
            return bits;
        }

        int lastVerdict() {
            int last = NONE;
            for (int p = 0; p < parties; p++) {
                last = Math.max(last, verdict[p]);
            }
            return last;
        }

        int heardInAll() {
            int total = 0;
            for (int p = 0; p < parties; p++) {
                total += heard[p];
            }
            return total;
        }
    }

    /** Finds where all are to stand so that most are heard. */
    private static final class Seeker {
        private final Road trial;
        private final Drive drive;
        private final int[] stones = new int[PARTIES_MOST];
        private final int[] hopes = new int[PARTIES_MOST + 1];
        private int most;

        Seeker(Road trial, Drive drive) {
            this.trial = trial;
            this.drive = drive;
        }

        void seekFor(Road road) {
            trial.copyFrom(road);
            reckonHopes();
            most = -1;
            drive.begin(trial);
            seekFrom(this, 0, 0);
        }

        /** No more of the parties from p on can be heard together than each alone; behind the last one there is none. */
        private void reckonHopes() {
            for (int p = PARTIES_MOST - 1; p >= 0; p--) {
                hopes[p] = hopes[p + 1] + (trial.hasParty(p) && canBeHeardAlone(p) ? 1 : 0);
            }
        }

        private boolean canBeHeardAlone(int p) {
            drive.begin(trial);
            for (int m = 0; m < trial.miles; m++) {
                trial.stone[p] = m;
                drive.runParty(trial, p);
                if (drive.hasVerdict(p)) {
                    return true;
                }
            }
            return false;
        }

        /** Stones come by number, and only more verdicts than ever before are kept: of several the first stays. */
        private static void seekFrom(Seeker by, int p, int verdicts) {
            if (p > PARTIES_MOST || verdicts + by.hopes[p] <= by.most) {
                return;
            }
            if (!by.trial.hasParty(p)) {
                by.most = verdicts;
                System.arraycopy(by.trial.stone, 0, by.stones, 0, PARTIES_MOST);
                return;
            }
            for (int m = 0; m < by.trial.miles; m++) {
                by.trial.stone[p] = m;
                by.drive.runParty(by.trial, p);
                seekFrom(by, p + 1, by.drive.hasVerdict(p) ? verdicts + 1 : verdicts);
            }
        }
    }

    /** What was SEEN: of whom, in which mile (or NONE). */
    private static final class Sightings {
        private final int[] who = new int[SEEN_MOST];
        private final int[] where = new int[SEEN_MOST];
        private int many;

        boolean put(int p, int m) {
            if (many >= SEEN_MOST) {
                return false;
            }
            who[many] = p;
            where[many] = m;
            many++;
            return true;
        }

        void copyFrom(Sightings other) {
            System.arraycopy(other.who, 0, who, 0, SEEN_MOST);
            System.arraycopy(other.where, 0, where, 0, SEEN_MOST);
            many = other.many;
        }

        boolean agreeWith(Drive drive) {
            for (int i = 0; i < many; i++) {
                if (drive.verdict[who[i]] != where[i]) {
                    return false;
                }
            }
            return true;
        }
    }

    /** An IMAGE, or the place for one. */
    private static final class Image {
        private final Road road = new Road();
        private final Sightings seen = new Sightings();
        private boolean there;
    }

    /** A SHEET: its lane is told by a number, and its cells are cut to that lane's bits as they are laid. */
    private static final class Sheet {
        private final int[] cells = new int[CELLS_MOST];
        private boolean there;
        private int lane;
        private int size;

        void renew(int newLane, int newSize) {
            there = true;
            lane = newLane;
            size = newSize;
            for (int i = 0; i < CELLS_MOST; i++) {
                cells[i] = 0;
            }
        }

        /** The FAULT that a machine would find in cell i of this sheet taken as of a lane, or 0. */
        int refusal(int asLane, int i) {
            if (!there) {
                return NULL_FAULT;
            }
            if (asLane != lane) {
                return CAST_FAULT;
            }
            return i >= 0 && i < size ? 0 : INDEX_FAULT;
        }

        int refusalOfPair(int asLane, int i) {
            int first = refusal(asLane, i);
            return first != 0 ? first : refusal(asLane, i + 1);
        }

        int cutToLane(int v) {
            switch (lane) {
                case BYTES: return (byte) v;
                case SHORTS: return (short) v;
                default: return v;
            }
        }
    }

    /** THE TAPE and the TOKENS on it, one at a time. The first FAULT stays: nothing is read behind it. */
    private static final class Tape {
        private static final int AT_END = 0, NAME = 1, NUMBER = 2, SEMICOLON = 3, NO_TOKEN = 4;
        private static final int FIGURES_MOST = 2;

        private final byte[] bytes = new byte[TAPE_MOST];
        private int length;
        private int next;
        private int from;
        private int kind;
        private int found;
        private int foundAt;

        boolean put(int c) {
            if (length >= TAPE_MOST) {
                return false;
            }
            bytes[length] = (byte) c;
            length++;
            return true;
        }

        void rewind() {
            next = 0;
            found = 0;
        }

        void blame(int fault, int at) {
            if (found == 0) {
                found = fault;
                foundAt = at;
            }
        }

        void readToken() {
            if (found != 0) {
                return;
            }
            while (next < length && bytes[next] == ' ') {
                next++;
            }
            from = next;
            kind = AT_END;
            if (next < length) {
                kind = kindOf(bytes[next]);
                next++;
            }
            boolean grows = kind == NAME || kind == NUMBER;
            while (grows && next < length && kindOf(bytes[next]) == kind) {
                next++;
            }
            if (kind == NO_TOKEN || kind == NUMBER && next - from > FIGURES_MOST) {
                blame(UNREADABLE, from);
            }
        }

        /** Of which kind a TOKEN is, by any byte of it. */
        private static int kindOf(int c) {
            if (c >= 'a' && c <= 'z') {
                return NAME;
            }
            if (c >= '0' && c <= '9') {
                return NUMBER;
            }
            return c == ';' ? SEMICOLON : NO_TOKEN;
        }

        int tokenValue() {
            int value = 0;
            for (int i = from; i < next; i++) {
                value = 10 * value + bytes[i] - '0';
            }
            return value;
        }

        boolean tokenSpells(String word) {
            if (next - from != word.length()) {
                return false;
            }
            for (int i = from; i < next; i++) {
                if (bytes[i] != word.charAt(i - from)) {
                    return false;
                }
            }
            return true;
        }
    }

    /** Takes a text from THE TAPE, line by line. */
    private static final class Teller {
        // The lines of parties are numbered as their kinds are.
        private static final int MILE_LINE = 4, MUD_LINE = 5, ROOM_LINE = 6, SNOW_LINE = 7, NO_LINE = 8;

        private final Tape tape;
        private boolean roomTold;
        private boolean snowTold;

        Teller(Tape tape) {
            this.tape = tape;
        }

        /** How many lines there are, or -10 less the place of the fault: then the draft is worth nothing. */
        int tellInto(Road draft) {
            draft.wipe();
            tape.rewind();
            roomTold = false;
            snowTold = false;
            int lines = 0;
            while (lines < TAPE_MOST && takeLine(draft)) {
                lines++;
            }
            if (draft.lacksMile()) {
                tape.blame(NO_SUCH_MILE, tape.length);
            }
            return tape.found == 0 ? lines : FAULT_BASE - tape.foundAt;
        }

        /** Whether there was one line more. */
        private boolean takeLine(Road draft) {
            tape.readToken();
            if (tape.found != 0 || tape.kind == Tape.AT_END) {
                return false;
            }
            int line = tape.kind == Tape.NAME ? lineOfName() : NO_LINE;
            switch (line) {
                case MILE_LINE: takeMile(draft); break;
                case MUD_LINE: takeMud(draft); break;
                case ROOM_LINE: takeRoom(draft); break;
                case SNOW_LINE: takeSnow(draft); break;
                case NO_LINE: tape.blame(MISPLACED, tape.from); break;
                default: takeParty(draft, line); break;
            }
            takeSemicolon();
            return tape.found == 0;
        }

        private int lineOfName() {
            if (tape.tokenSpells("plain")) {
                return PLAIN;
            }
            if (tape.tokenSpells("rider")) {
                return RIDER;
            }
            if (tape.tokenSpells("lame")) {
                return LAME;
            }
            if (tape.tokenSpells("counsel")) {
                return COUNSEL;
            }
            if (tape.tokenSpells("mile")) {
                return MILE_LINE;
            }
            if (tape.tokenSpells("mud")) {
                return MUD_LINE;
            }
            if (tape.tokenSpells("room")) {
                return ROOM_LINE;
            }
            return tape.tokenSpells("snow") ? SNOW_LINE : NO_LINE;
        }

        private void takeSemicolon() {
            tape.readToken();
            if (tape.kind != Tape.SEMICOLON) {
                tape.blame(MISPLACED, tape.from);
            }
        }

        /** The number that comes, or the lowest that might if there is a fault. */
        private int takeNumber(int low, int high) {
            tape.readToken();
            if (tape.kind != Tape.NUMBER) {
                tape.blame(MISPLACED, tape.from);
            } else if (!within(tape.tokenValue(), low, high)) {
                tape.blame(OUT_OF_BOUNDS, tape.from);
            }
            return tape.found == 0 ? tape.tokenValue() : low;
        }

        private void takeMile(Road draft) {
            int m = draft.miles;
            if (m >= MILES_MOST) {
                tape.blame(TOO_MANY, tape.from);
                return;
            }
            draft.land[m] = takeNumber(0, MILE_HIGH[LAND]);
            draft.hill[m] = takeNumber(0, MILE_HIGH[HILL]);
            draft.miles++;
        }

        private void takeMud(Road draft) {
            int m = takeNumber(0, MILES_MOST - 1);
            if (draft.mud[m] != 0) {
                tape.blame(TOLD_TWICE, tape.from);
            }
            draft.mud[m] = 1;
        }

        private void takeParty(Road draft, int kind) {
            int p = draft.parties;
            if (p >= PARTIES_MOST) {
                tape.blame(TOO_MANY, tape.from);
                return;
            }
            draft.kind[p] = kind;
            for (int what = WIND; what <= STONE; what++) {
                draft.partyRow(what)[p] = takeNumber(PARTY_LOW[what], PARTY_HIGH[what]);
            }
            draft.parties++;
        }

        private void takeRoom(Road draft) {
            if (roomTold) {
                tape.blame(TOLD_TWICE, tape.from);
            }
            roomTold = true;
            draft.places = takeNumber(ROOM_LEAST, ROOM_MOST);
        }

        private void takeSnow(Road draft) {
            if (snowTold) {
                tape.blame(TOLD_TWICE, tape.from);
            }
            snowTold = true;
            draft.snowfall = takeNumber(0, SNOW_MOST);
        }
    }
}
