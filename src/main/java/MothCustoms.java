/** Duty on bolts of cloth, by the holes that moths eat in a night; the document tells it by promises. */
public final class MothCustoms {
    public static final int BAD = -1, STATE = -2, FULL = -3, NONE = -4;

    private static final int BALES = 3;
    private static final int BOLTS = 5;
    private static final int MOTHS = 4;
    private static final int SIGHTS = 6;
    private static final int BYTES = 160;
    private static final int IMAGES = 2;
    private static final int SHEETS = 4;
    private static final int CELLS = 40;
    private static final int LANES = 3;

    private static final int MOST_DYE = 5;
    private static final int MOST_WOOL = 9;
    private static final int MOST_MOON = 3;
    private static final int LEAST_RATE = 1;
    private static final int MOST_RATE = 9;
    private static final int MOST_NIGHTS = 20;
    private static final int LATEST_NIGHT = 999;
    private static final int ABOVE_ALL_DUTY = BOLTS * MOST_WOOL * MOST_RATE + 1;

    private static final int PLAIN = 0;
    private static final int PICKY = 1;
    private static final int GLUTTON = 2;
    private static final int FAT = 3;
    private static final int ALL_MOTHS = (1 << MOTHS) - 1;

    private static final int NO_FAULT = 0;
    private static final int NULL = 1;
    private static final int INDEX = 2;
    private static final int CAST = 3;
    private static final int SIZE = 4;

    private final Tape tape;
    private final Shed now;
    // what would be is tried here, so that what is stays as it is
    private final Shed trial;
    private final Shed[] images;
    private final Sheet[] sheets;
    private final Search search;
    private int kept;
    private int torn;

    public MothCustoms() {
        tape = new Tape();
        now = new Shed();
        trial = new Shed();
        images = new Shed[IMAGES];
        for (int k = 0; k < IMAGES; k++) {
            images[k] = new Shed();
        }
        sheets = new Sheet[SHEETS];
        for (int k = 0; k < SHEETS; k++) {
            sheets[k] = new Sheet();
        }
        search = new Search();
    }

    // ---- the text

    public int feed(int c) {
        if (!within(c, 0, 127)) {
            return BAD;
        }
        if (tape.length >= BYTES) {
            return FULL;
        }
        tape.bytes[tape.length] = c;
        tape.length++;
        return tape.length;
    }

    public int end(int n) {
        if (!within(n, 0, tape.length)) {
            return BAD;
        }
        int had = tape.length;
        tape.length = n;
        return had;
    }

    public int text() {
        int lines = tape.tellInto(trial);
        if (tape.fault != NO_FAULT) {
            return -10 - tape.faultPlace;
        }
        now.copyFrom(trial);
        kept = 0;
        return lines;
    }

    public int fault() {
        return tape.fault;
    }

    public int rule(int what) {
        switch (what) {
            case 0: return now.bolts;
            case 1: return now.moths;
            case 2: return now.moon;
            case 3: return now.rate;
            case 4: return now.night;
            case 5: return now.camphor;
            case 6: return now.eatenUp();
            default: return BAD;
        }
    }

    public int bolt(int b, int what) {
        if (!now.hasBolt(b)) {
            return BAD;
        }
        switch (what) {
            case 0: return now.dye[b];
            case 1: return now.wool[b];
            case 2: return now.holes[b];
            case 3: return now.camphor >> b & 1;
            case 4: return now.baleOf(b);
            case 5: return now.layerOf(b);
            default: return BAD;
        }
    }

    public int moth(int m, int what) {
        if (!now.hasMoth(m)) {
            return BAD;
        }
        switch (what) {
            case 4: return now.appetite(m);
            case 5: return now.liked(m);
            default: return now.trait(m, what);
        }
    }

    public int bale(int k, int what) {
        if (!isBale(k)) {
            return BAD;
        }
        if (what == 0) {
            return now.height[k];
        }
        if (what == 1) {
            return now.dutyOf(k);
        }
        if (!within(what, 10, 10 + BOLTS - 1)) {
            return BAD;
        }
        int layer = what - 10;
        return layer < now.height[k] ? now.lying[k * BOLTS + layer] : NONE;
    }

    // ---- what is changed

    public int fold(int b, int k) {
        if (!now.hasBolt(b) || !isBale(k)) {
            return BAD;
        }
        now.putOnTop(b, k);
        return now.height[k];
    }

    public int under(int b, int k) {
        if (!now.hasBolt(b) || !isBale(k)) {
            return BAD;
        }
        now.takeOut(b);
        now.putBelow(b, k);
        return now.height[k];
    }

    public int swap(int b, int c) {
        if (!now.hasBolt(b) || !now.hasBolt(c) || b == c) {
            return BAD;
        }
        int one = now.spotOf(b);
        int other = now.spotOf(c);
        now.lying[one] = c;
        now.lying[other] = b;
        return now.baleOf(b);
    }

    public int camphor(int b, boolean is) {
        if (!now.hasBolt(b)) {
            return BAD;
        }
        int had = now.camphor >> b & 1;
        now.camphor = is ? now.camphor | 1 << b : now.camphor & ~(1 << b);
        return had;
    }

    public int patch(int b, int n) {
        if (!now.hasBolt(b) || !within(n, 0, MOST_WOOL)) {
            return BAD;
        }
        if (now.holes[b] < n) {
            return STATE;
        }
        now.holes[b] -= n;
        return now.holes[b];
    }

    public int prick(int b) {
        if (!now.hasBolt(b)) {
            return BAD;
        }
        if (now.holes[b] >= now.wool[b]) {
            return FULL;
        }
        now.holes[b]++;
        return now.holes[b];
    }

    public int alter(int m, int what, int v) {
        if (!now.hasMoth(m) || !within(what, 0, 3) || !within(v, 0, mostOfTrait(what))) {
            return BAD;
        }
        int was = now.trait(m, what);
        now.setTrait(m, what, v);
        return was;
    }

    public int set(int what, int v) {
        if (what == 0 && within(v, 0, MOST_MOON)) {
            int was = now.moon;
            now.moon = v;
            return was;
        }
        if (what == 1 && within(v, LEAST_RATE, MOST_RATE)) {
            int was = now.rate;
            now.rate = v;
            return was;
        }
        return BAD;
    }

    // ---- nights

    public int go(int n) {
        if (!within(n, 0, MOST_NIGHTS)) {
            return BAD;
        }
        if (now.night + n > LATEST_NIGHT) {
            return FULL;
        }
        for (int i = 0; i < n; i++) {
            now.passNight();
        }
        return now.dutyOfAll();
    }

    public int ahead(int n, int what) {
        if (!within(n, 0, MOST_NIGHTS) || !within(what, 0, 2)) {
            return BAD;
        }
        trial.copyFrom(now);
        for (int i = 0; i < n; i++) {
            trial.passNight();
        }
        if (what == 0) {
            return trial.dutyOfAll();
        }
        return what == 1 ? trial.holesInAll() : trial.eatenUp();
    }

    public int when(int b) {
        if (!now.hasBolt(b)) {
            return BAD;
        }
        trial.copyFrom(now);
        for (int n = 0; n <= 2 * MOST_NIGHTS; n++) {
            if (trial.isEatenUp(b)) {
                return n;
            }
            trial.passNight();
        }
        return NONE;
    }

    public int eats(int m) {
        if (!now.hasMoth(m)) {
            return BAD;
        }
        tryNight(1 << m);
        return trial.holesInAll() - now.holesInAll();
    }

    public int duty(int what) {
        if (what == 0) {
            return now.dutyOfAll();
        }
        if (what != 1) {
            return BAD;
        }
        tryNight(ALL_MOTHS);
        return trial.holesInAll() * trial.rate;
    }

    // ---- what is best

    public int best(int what) {
        boolean ofBolt = what >= 10 && now.hasBolt(what - 10);
        if (what != 0 && !ofBolt) {
            return BAD;
        }
        search.findBest(now);
        return ofBolt ? search.bestCodes[what - 10] : search.least;
    }

    public int guard(int what) {
        return leastBy(true, what);
    }

    public int send(int m, int what) {
        if (!now.hasMoth(m) || !within(what, 0, 1)) {
            return BAD;
        }
        int bale = 0;
        int most = -1;
        for (int k = 0; k < BALES; k++) {
            trial.copyFrom(now);
            trial.at[m] = k;
            trial.letLoose(ALL_MOTHS);
            int duty = trial.dutyOfAll();
            if (duty > most) {
                most = duty;
                bale = k;
            }
        }
        return what == 0 ? bale : most;
    }

    public int raise(int what) {
        return leastBy(false, what);
    }

    // ---- odds

    public long mean(int v, int what) {
        if (!within(v, 0, 10) || !within(what, 0, 1)) {
            return BAD;
        }
        long sum = 0;
        for (int flying = 0; flying < 1 << now.moths; flying++) {
            tryNight(flying);
            sum += weight(v, flying) * trial.dutyOfAll();
        }
        return partOfFraction(sum, what);
    }

    public long luck(int v, int b, int what) {
        if (!within(v, 0, 10) || !now.hasBolt(b) || !within(what, 0, 1)) {
            return BAD;
        }
        long sum = 0;
        for (int flying = 0; flying < 1 << now.moths; flying++) {
            tryNight(flying);
            sum += trial.isEatenUp(b) ? weight(v, flying) : 0;
        }
        return partOfFraction(sum, what);
    }

    // ---- what was counted

    public int see(int b, int h) {
        if (!now.hasBolt(b) || !within(h, 0, MOST_WOOL)) {
            return BAD;
        }
        if (now.seen >= SIGHTS) {
            return FULL;
        }
        now.seenBolt[now.seen] = b;
        now.seenHoles[now.seen] = h;
        now.seen++;
        return now.seen;
    }

    public int forget(int n) {
        if (!within(n, 0, now.seen)) {
            return BAD;
        }
        int had = now.seen;
        now.seen = n;
        return had;
    }

    public int tastes(int m) {
        if (!now.hasMoth(m)) {
            return BAD;
        }
        int fitting = 0;
        for (int taste = 0; taste <= MOST_DYE; taste++) {
            trial.copyFrom(now);
            trial.taste[m] = taste;
            trial.letLoose(ALL_MOTHS);
            if (trial.isAsSeen(0)) {
                fitting |= 1 << taste;
            }
        }
        return fitting;
    }

    public int bought() {
        int fitting = 0;
        for (int m = 0; m < now.moths; m++) {
            tryNight(ALL_MOTHS & ~(1 << m));
            if (trial.isAsSeen(0)) {
                fitting |= 1 << m;
            }
        }
        return fitting;
    }

    public int pricked(int what) {
        if (!within(what, 0, 1)) {
            return BAD;
        }
        tryNight(ALL_MOTHS);
        int sets = 0;
        int least = NONE;
        for (int tried = 0; tried < 1 << now.bolts; tried++) {
            if (trial.isAsSeen(tried)) {
                sets++;
                least = least == NONE ? tried : least;
            }
        }
        return what == 0 ? sets : least;
    }

    public int lain(int k) {
        return isBale(k) ? search.findTops(now, k) : BAD;
    }

    // ---- by a seed

    public int drift(int seed, int n, int what) {
        if (!within(n, 1, MOST_NIGHTS) || !within(what, 0, 1)) {
            return BAD;
        }
        if (now.bolts <= 0) {
            return STATE;
        }
        trial.copyFrom(now);
        int drawn = seed;
        for (int i = 0; i < n; i++) {
            drawn = drawn * 1103515245 + 12345;
            int bits = drawn >>> 16 & 0x7fff;
            trial.putOnTop(bits % now.bolts, bits % BALES);
            trial.passNight();
        }
        return what == 0 ? trial.dutyOfAll() : trial.holesInAll();
    }

    // ---- images, sheets

    public int keep(int k) {
        if (!within(k, 0, IMAGES - 1)) {
            return BAD;
        }
        int was = kept >> k & 1;
        images[k].copyFrom(now);
        kept |= 1 << k;
        return was;
    }

    public int back(int k) {
        if (!within(k, 0, IMAGES - 1)) {
            return BAD;
        }
        if ((kept >> k & 1) == 0) {
            return STATE;
        }
        now.copyFrom(images[k]);
        return now.night;
    }

    public int sheet(int k, int lane, int n) {
        if (!isSheet(k) || !isLane(lane) || n > CELLS) {
            return BAD;
        }
        if (n < 0) {
            return -10 - SIZE;
        }
        sheets[k].makeNew(lane, n);
        return 1;
    }

    public int lay(int k, int i, int v) {
        if (!isSheet(k)) {
            return BAD;
        }
        Sheet sheet = sheets[k];
        if (!sheet.there) {
            return -10 - NULL;
        }
        if (!sheet.hasCell(i)) {
            return -10 - INDEX;
        }
        sheet.setCell(i, v);
        return 1;
    }

    public int read(int k, int lane, int f, int n) {
        if (!isSheet(k) || !isLane(lane) || !within(n, 0, MOST_NIGHTS)) {
            return BAD;
        }
        Sheet sheet = sheets[k];
        int met = n == 0 ? NO_FAULT : sheet.faultAs(lane);
        int whole = met == NO_FAULT ? sheet.wholePairs(f, n) : 0;
        if (met == NO_FAULT && whole < n) {
            met = INDEX;
        }
        for (int i = 0; i < whole; i++) {
            if (!now.hasBolt(sheet.cells[f + 2 * i]) || !isBale(sheet.cells[f + 2 * i + 1])) {
                return -20 - i;
            }
        }
        for (int i = 0; i < whole; i++) {
            now.putOnTop(sheet.cells[f + 2 * i], sheet.cells[f + 2 * i + 1]);
        }
        torn = met;
        return whole;
    }

    public int torn() {
        return torn;
    }

    public int count(int what) {
        switch (what) {
            case 0: return now.holesInAll();
            case 1: return now.seen;
            case 2: return Integer.bitCount(kept);
            case 3: return tape.length;
            case 4: return sheets[0].there ? sheets[0].size : NONE;
            default: return BAD;
        }
    }

    // ---- what the calls share

    private static boolean within(int v, int least, int most) {
        return v >= least && v <= most;
    }

    private static boolean isBale(int k) {
        return within(k, 0, BALES - 1);
    }

    private static boolean isSheet(int k) {
        return within(k, 0, SHEETS - 1);
    }

    private static boolean isLane(int lane) {
        return within(lane, 0, LANES - 1);
    }

    private static int mostOfTrait(int what) {
        switch (what) {
            case 0: return FAT;
            case 1: return MOST_DYE;
            case 2: return MOST_WOOL;
            default: return BALES - 1;
        }
    }

    private void tryNight(int flying) {
        trial.copyFrom(now);
        trial.letLoose(flying);
    }

    /** The bolt that is to have camphor, or is to be on top, so that duty behind the night is least; or that duty. */
    private int leastBy(boolean camphor, int what) {
        if (!within(what, 0, 1)) {
            return BAD;
        }
        int bolt = NONE;
        tryNight(ALL_MOTHS);
        int least = trial.dutyOfAll();
        // a bolt that has camphor, or is on top, already changes nothing, so it is never less
        for (int b = 0; b < now.bolts; b++) {
            trial.copyFrom(now);
            if (camphor) {
                trial.camphor |= 1 << b;
            } else {
                trial.putOnTop(b, trial.baleOf(b));
            }
            trial.letLoose(ALL_MOTHS);
            int duty = trial.dutyOfAll();
            if (duty < least) {
                least = duty;
                bolt = b;
            }
        }
        return what == 0 || bolt == NONE ? bolt : least;
    }

    /** By how many of the 10 to the power of MOTHS cases just these fly. */
    private long weight(int v, int flying) {
        long cases = 1;
        for (int m = 0; m < now.moths; m++) {
            cases *= (flying >> m & 1) == 1 ? v : 10 - v;
        }
        return cases;
    }

    private long partOfFraction(long sum, int what) {
        long cases = 1;
        for (int m = 0; m < now.moths; m++) {
            cases *= 10;
        }
        long shared = commonDivisor(cases, sum);
        if (shared <= 0) {
            return BAD;
        }
        return what == 0 ? sum / shared : cases / shared;
    }

    private static long commonDivisor(long a, long b) {
        // each two turns halve the greater number, so a long needs fewer than 200
        for (int turn = 0; turn < 200 && b != 0; turn++) {
            long rest = a % b;
            a = b;
            b = rest;
        }
        return a;
    }

    /** All that an image keeps: bolts, moths, how they lie, the moon, the rate, the night, what was seen. */
    private static final class Shed {
        int bolts;
        final int[] dye = new int[BOLTS];
        final int[] wool = new int[BOLTS];
        final int[] holes = new int[BOLTS];
        int camphor;
        // a spot is a bale times BOLTS and a layer; lying holds the bolt of each spot below the bale's height
        final int[] lying = new int[BALES * BOLTS];
        final int[] height = new int[BALES];
        int moths;
        final int[] kind = new int[MOTHS];
        final int[] taste = new int[MOTHS];
        final int[] hunger = new int[MOTHS];
        final int[] at = new int[MOTHS];
        int moon;
        int rate = LEAST_RATE;
        int night;
        int seen;
        final int[] seenBolt = new int[SIGHTS];
        final int[] seenHoles = new int[SIGHTS];

        void makeEmpty() {
            bolts = 0;
            camphor = 0;
            moths = 0;
            moon = 0;
            rate = LEAST_RATE;
            night = 0;
            seen = 0;
            for (int k = 0; k < BALES; k++) {
                height[k] = 0;
            }
        }

        void copyFrom(Shed other) {
            bolts = other.bolts;
            System.arraycopy(other.dye, 0, dye, 0, BOLTS);
            System.arraycopy(other.wool, 0, wool, 0, BOLTS);
            copyHolesFrom(other);
            camphor = other.camphor;
            copyLyingFrom(other);
            moths = other.moths;
            System.arraycopy(other.kind, 0, kind, 0, MOTHS);
            System.arraycopy(other.taste, 0, taste, 0, MOTHS);
            System.arraycopy(other.hunger, 0, hunger, 0, MOTHS);
            System.arraycopy(other.at, 0, at, 0, MOTHS);
            moon = other.moon;
            rate = other.rate;
            night = other.night;
            seen = other.seen;
            System.arraycopy(other.seenBolt, 0, seenBolt, 0, SIGHTS);
            System.arraycopy(other.seenHoles, 0, seenHoles, 0, SIGHTS);
        }

        void copyHolesFrom(Shed other) {
            System.arraycopy(other.holes, 0, holes, 0, BOLTS);
        }

        void copyLyingFrom(Shed other) {
            System.arraycopy(other.lying, 0, lying, 0, BALES * BOLTS);
            System.arraycopy(other.height, 0, height, 0, BALES);
        }

        boolean hasBolt(int b) {
            return within(b, 0, bolts - 1);
        }

        boolean hasMoth(int m) {
            return within(m, 0, moths - 1);
        }

        boolean hasCamphor(int b) {
            return (camphor >> b & 1) == 1;
        }

        void addBolt(int itsDye, int itsWool, int k) {
            if (bolts >= BOLTS) {
                return;
            }
            int b = bolts;
            bolts++;
            dye[b] = itsDye;
            wool[b] = itsWool;
            holes[b] = 0;
            putBelow(b, k);
        }

        void addMoth(int itsKind, int itsTaste, int itsHunger, int k) {
            if (moths >= MOTHS) {
                return;
            }
            int m = moths;
            moths++;
            kind[m] = itsKind;
            taste[m] = itsTaste;
            hunger[m] = itsHunger;
            at[m] = k;
        }

        int spotOf(int b) {
            for (int k = 0; k < BALES; k++) {
                for (int i = 0; i < height[k]; i++) {
                    if (lying[k * BOLTS + i] == b) {
                        return k * BOLTS + i;
                    }
                }
            }
            // no bolt is ever out of the bales between two calls
            return 0;
        }

        int baleOf(int b) {
            return spotOf(b) / BOLTS;
        }

        int layerOf(int b) {
            return spotOf(b) % BOLTS;
        }

        void takeOut(int b) {
            int spot = spotOf(b);
            int k = spot / BOLTS;
            height[k]--;
            for (int i = spot % BOLTS; i < height[k]; i++) {
                lying[k * BOLTS + i] = lying[k * BOLTS + i + 1];
            }
        }

        /** For a bolt that is in no bale. */
        void putBelow(int b, int k) {
            if (height[k] >= BOLTS) {
                return;
            }
            lying[k * BOLTS + height[k]] = b;
            height[k]++;
        }

        void putOnTop(int b, int k) {
            takeOut(b);
            for (int i = height[k]; i > 0; i--) {
                lying[k * BOLTS + i] = lying[k * BOLTS + i - 1];
            }
            lying[k * BOLTS] = b;
            height[k]++;
        }

        int trait(int m, int what) {
            switch (what) {
                case 0: return kind[m];
                case 1: return taste[m];
                case 2: return hunger[m];
                case 3: return at[m];
                default: return BAD;
            }
        }

        void setTrait(int m, int what, int v) {
            switch (what) {
                case 0: kind[m] = v; break;
                case 1: taste[m] = v; break;
                case 2: hunger[m] = v; break;
                default: at[m] = v; break;
            }
        }

        int appetite(int m) {
            int ofPlain = hunger[m] + moon;
            switch (kind[m]) {
                case PICKY: return Math.max(0, ofPlain - 1);
                case GLUTTON: return 2 * ofPlain;
                case FAT: return ofPlain / 2;
                default: return ofPlain;
            }
        }

        boolean likes(int m, int b) {
            switch (kind[m]) {
                case PICKY: return dye[b] == taste[m];
                case GLUTTON: return true;
                default: return dye[b] - taste[m] <= 1 && taste[m] - dye[b] <= 1;
            }
        }

        int liked(int m) {
            int bits = 0;
            for (int b = 0; b < bolts; b++) {
                if (likes(m, b)) {
                    bits |= 1 << b;
                }
            }
            return bits;
        }

        void passNight() {
            letLoose(ALL_MOTHS);
            moon = (moon + 1) % (MOST_MOON + 1);
            night++;
        }

        /** A night's eating of the moths among these bits; the moon and the night stay. */
        void letLoose(int flying) {
            for (int m = 0; m < moths; m++) {
                if ((flying >> m & 1) == 1) {
                    eatDown(m);
                }
            }
        }

        private void eatDown(int m) {
            int left = appetite(m);
            int k = at[m];
            for (int i = 0; i < height[k] && left > 0; i++) {
                int b = lying[k * BOLTS + i];
                if (hasCamphor(b)) {
                    return;
                }
                if (likes(m, b)) {
                    int eaten = Math.min(left, wool[b] - holes[b]);
                    holes[b] += eaten;
                    left -= eaten;
                }
            }
        }

        int dutyOf(int k) {
            int sum = 0;
            int above = 0;
            for (int i = 0; i < height[k]; i++) {
                int here = holes[lying[k * BOLTS + i]];
                sum += here - Math.min(here, above);
                above = here;
            }
            return sum * rate;
        }

        int dutyOfAll() {
            int sum = 0;
            for (int k = 0; k < BALES; k++) {
                sum += dutyOf(k);
            }
            return sum;
        }

        int holesInAll() {
            int sum = 0;
            for (int b = 0; b < bolts; b++) {
                sum += holes[b];
            }
            return sum;
        }

        boolean isEatenUp(int b) {
            return wool[b] > 0 && holes[b] == wool[b];
        }

        int eatenUp() {
            int bits = 0;
            for (int b = 0; b < bolts; b++) {
                if (isEatenUp(b)) {
                    bits |= 1 << b;
                }
            }
            return bits;
        }

        /** Whether all holes are as seen, were the bolts of this set pricked once more. */
        boolean isAsSeen(int set) {
            for (int i = 0; i < seen; i++) {
                int b = seenBolt[i];
                int more = (set >> b & 1) == 1 && holes[b] < wool[b] ? 1 : 0;
                if (holes[b] + more != seenHoles[i]) {
                    return false;
                }
            }
            return true;
        }
    }

    /** The tape, and its reader: the first fault that is met stays. */
    private static final class Tape {
        private static final int NAME = 1;
        private static final int NUMBER = 2;
        private static final int SIGN = 3;
        private static final int END = 4;
        private static final int NOTHING = 5;

        // the lines of moths are told by the numbers of their kinds, PLAIN to FAT
        private static final int BOLT_LINE = 4;
        private static final int CAMPHOR_LINE = 5;
        private static final int MOON_LINE = 6;
        private static final int RATE_LINE = 7;
        private static final int NO_LINE = -1;

        private static final int NO_TOKEN = 1;
        private static final int MISPLACED = 2;
        private static final int OUT_OF_BOUNDS = 3;
        private static final int TWICE = 4;
        private static final int TOO_MANY = 5;
        private static final int NO_BOLT = 6;

        final int[] bytes = new int[BYTES];
        int length;
        int fault;
        int faultPlace;
        private final int[] numbers = new int[3];
        private int place;
        private int token;
        private int start;
        private int value;
        private boolean moonTold;
        private boolean rateTold;

        /** How many lines were told; what the shed is after a fault is nothing to be used. */
        int tellInto(Shed shed) {
            shed.makeEmpty();
            fault = NO_FAULT;
            place = 0;
            moonTold = false;
            rateTold = false;
            int lines = 0;
            nextToken();
            // a line takes several bytes, so BYTES lines are never reached
            while (lines < BYTES && token != END && tellLine(shed)) {
                lines++;
                nextToken();
            }
            if (shed.camphor >> shed.bolts != 0) {
                refuse(NO_BOLT, length);
            }
            length = 0;
            return lines;
        }

        private boolean tellLine(Shed shed) {
            int line = token == NAME ? lineNamed() : NO_LINE;
            if (line == NO_LINE) {
                return refuse(MISPLACED, start);
            }
            if (line == MOON_LINE && moonTold || line == RATE_LINE && rateTold) {
                return refuse(TWICE, start);
            }
            if (line == BOLT_LINE && shed.bolts >= BOLTS || line <= FAT && shed.moths >= MOTHS) {
                return refuse(TOO_MANY, start);
            }
            if (!readNumbers(line, shed)) {
                return false;
            }
            nextToken();
            if (token != SIGN) {
                return refuse(MISPLACED, start);
            }
            take(line, shed);
            return true;
        }

        private boolean readNumbers(int line, Shed shed) {
            int wanted = line <= BOLT_LINE ? 3 : 1;
            for (int i = 0; i < wanted; i++) {
                nextToken();
                if (token != NUMBER) {
                    return refuse(MISPLACED, start);
                }
                if (!within(value, line == RATE_LINE ? LEAST_RATE : 0, mostOfNumber(line, i))) {
                    return refuse(OUT_OF_BOUNDS, start);
                }
                if (line == CAMPHOR_LINE && shed.hasCamphor(value)) {
                    return refuse(TWICE, start);
                }
                numbers[i] = value;
            }
            return true;
        }

        private static int mostOfNumber(int line, int i) {
            switch (line) {
                case CAMPHOR_LINE: return BOLTS - 1;
                case MOON_LINE: return MOST_MOON;
                case RATE_LINE: return MOST_RATE;
                // a bolt's numbers and a moth's have the same bounds
                default: return mostOfTrait(i + 1);
            }
        }

        private void take(int line, Shed shed) {
            switch (line) {
                case BOLT_LINE: shed.addBolt(numbers[0], numbers[1], numbers[2]); break;
                case CAMPHOR_LINE: shed.camphor |= 1 << numbers[0]; break;
                case MOON_LINE: shed.moon = numbers[0]; moonTold = true; break;
                case RATE_LINE: shed.rate = numbers[0]; rateTold = true; break;
                default: shed.addMoth(line, numbers[0], numbers[1], numbers[2]); break;
            }
        }

        private int lineNamed() {
            if (isName("bolt")) {
                return BOLT_LINE;
            }
            if (isName("plain")) {
                return PLAIN;
            }
            if (isName("picky")) {
                return PICKY;
            }
            if (isName("glutton")) {
                return GLUTTON;
            }
            if (isName("fat")) {
                return FAT;
            }
            if (isName("camphor")) {
                return CAMPHOR_LINE;
            }
            if (isName("moon")) {
                return MOON_LINE;
            }
            return isName("rate") ? RATE_LINE : NO_LINE;
        }

        private boolean isName(String name) {
            if (place - start != name.length()) {
                return false;
            }
            for (int i = 0; i < name.length(); i++) {
                if (bytes[start + i] != name.charAt(i)) {
                    return false;
                }
            }
            return true;
        }

        private void nextToken() {
            while (place < length && bytes[place] == ' ') {
                place++;
            }
            start = place;
            if (place >= length) {
                token = END;
            } else if (isLetter(bytes[place])) {
                readName();
            } else if (isFigure(bytes[place])) {
                readNumber();
            } else if (bytes[place] == ';') {
                token = SIGN;
                place++;
            } else {
                token = NOTHING;
                refuse(NO_TOKEN, start);
            }
        }

        private void readName() {
            token = NAME;
            while (place < length && isLetter(bytes[place])) {
                place++;
            }
        }

        private void readNumber() {
            token = NUMBER;
            value = 0;
            // past two figures the value is of no use, and wraps around at worst
            while (place < length && isFigure(bytes[place])) {
                value = 10 * value + bytes[place] - '0';
                place++;
            }
            if (place - start > 2) {
                token = NOTHING;
                refuse(NO_TOKEN, start);
            }
        }

        private static boolean isLetter(int c) {
            return c >= 'a' && c <= 'z';
        }

        private static boolean isFigure(int c) {
            return c >= '0' && c <= '9';
        }

        private boolean refuse(int which, int where) {
            if (fault == NO_FAULT) {
                fault = which;
                faultPlace = where;
            }
            return false;
        }
    }

    /** Goes through foldings, and through orders of one bale, by trying a night on each. */
    private static final class Search {
        private final Shed tried = new Shed();
        private final int[] codes = new int[BOLTS];
        final int[] bestCodes = new int[BOLTS];
        int least;
        private int taken;
        private int tops;

        void findBest(Shed shed) {
            tried.copyFrom(shed);
            for (int k = 0; k < BALES; k++) {
                tried.height[k] = 0;
            }
            least = ABOVE_ALL_DUTY;
            taken = 0;
            placeFrom(this, shed, 0, 0);
        }

        /**
         * Places bolt b and those behind it, in the order in which foldings are compared. reached is the sum of
         * the bales' heights, gaps too: kept within the number of bolts, so that the bolts to come fill all gaps.
         */
        private static void placeFrom(Search s, Shed shed, int b, int reached) {
            if (b >= shed.bolts) {
                weighFolding(s, shed);
                return;
            }
            for (int k = 0; k < BALES; k++) {
                int height = s.tried.height[k];
                for (int i = 0; i < shed.bolts; i++) {
                    int spot = k * BOLTS + i;
                    int grown = Math.max(0, i + 1 - height);
                    // nothing is less than 0, and of several the first one counts
                    if ((s.taken >> spot & 1) == 1 || reached + grown > shed.bolts || s.least == 0) {
                        continue;
                    }
                    s.taken |= 1 << spot;
                    s.tried.lying[spot] = b;
                    s.tried.height[k] = height + grown;
                    s.codes[b] = 10 * k + i;
                    placeFrom(s, shed, b + 1, reached + grown);
                    s.tried.height[k] = height;
                    s.taken &= ~(1 << spot);
                }
            }
        }

        private static void weighFolding(Search s, Shed shed) {
            s.tried.copyHolesFrom(shed);
            s.tried.letLoose(ALL_MOTHS);
            int duty = s.tried.dutyOfAll();
            if (duty < s.least) {
                s.least = duty;
                System.arraycopy(s.codes, 0, s.bestCodes, 0, BOLTS);
            }
        }

        /** Bits of the bolts that are on top by an order of bale k by which all is as seen. */
        int findTops(Shed shed, int k) {
            tried.copyFrom(shed);
            tops = 0;
            if (shed.height[k] > 0) {
                orderFrom(this, shed, k * BOLTS, k * BOLTS + shed.height[k]);
            }
            return tops;
        }

        private static void orderFrom(Search s, Shed shed, int spot, int last) {
            if (spot >= last) {
                s.tried.copyHolesFrom(shed);
                s.tried.letLoose(ALL_MOTHS);
                int top = s.tried.lying[last - 1 - (last - 1) % BOLTS];
                s.tops |= s.tried.isAsSeen(0) ? 1 << top : 0;
                return;
            }
            for (int other = spot; other < last; other++) {
                exchange(s.tried.lying, spot, other);
                orderFrom(s, shed, spot + 1, last);
                exchange(s.tried.lying, spot, other);
            }
        }

        private static void exchange(int[] row, int i, int j) {
            int held = row[i];
            row[i] = row[j];
            row[j] = held;
        }
    }

    /** A row of cells that keep the lowest bits of what is laid, by its lane. */
    private static final class Sheet {
        boolean there;
        private int lane;
        int size;
        final int[] cells = new int[CELLS];

        void makeNew(int itsLane, int n) {
            there = true;
            lane = itsLane;
            size = n;
            for (int i = 0; i < CELLS; i++) {
                cells[i] = 0;
            }
        }

        boolean hasCell(int i) {
            return there && within(i, 0, size - 1);
        }

        void setCell(int i, int v) {
            if (lane == 0) {
                cells[i] = (byte) v;
            } else {
                cells[i] = lane == 1 ? (short) v : v;
            }
        }

        int faultAs(int itsLane) {
            if (!there) {
                return NULL;
            }
            return lane == itsLane ? NO_FAULT : CAST;
        }

        /** How many of n pairs from cell f on are whole, up to the first that is not. */
        int wholePairs(int f, int n) {
            int whole = 0;
            while (whole < n && hasCell(f) && hasCell(f + 2 * whole + 1)) {
                whole++;
            }
            return whole;
        }
    }
}
