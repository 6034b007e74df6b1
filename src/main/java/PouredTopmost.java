import java.util.Arrays;

/**
 * Glasses that stand in a tower and run over into those below by told shares.
 *
 * All amounts are held as whole numbers of grains (see MEASURE), so that they are exact
 * without fractions; a fraction in lowest terms is made only when one is told. Every row is
 * made with the object and used again: no call makes an object.
 */
public final class PouredTopmost {
    public static final int NONE = -1, UNKNOWN = -101, OUTSIDE = -102, STATE = -103, FULL = -104;

    private static final int GLASS = 0, CHIPPED = 1, CORKED = 2, LEANING = 3, STUCK = 4;
    /** The letters of the kinds from 1 on, in their order. */
    private static final String KIND_LETTERS = "ckls";

    private static final int MOST_GLASSES = 9, MOST_SHARES = 3, MOST_LETTERS = 70;
    /** The number behind that of the last glass there can be: what comes to it is spilt. */
    private static final int CLOTH = MOST_GLASSES;
    private static final int LETTERS_AT_ONCE = 8, GREATEST_CODE = 126;

    /**
     * Grains in one measure: 12 to the 9. Each of nine glasses parts what runs over by 1, 2,
     * 3 or 4, all of which go into 12, so that no grain is ever broken.
     */
    private static final long MEASURE = 5159780352L;

    private static final int MOST_POURED = 9999, MOST_AT_ONCE = 99, MOST_WOULD_BE = 999;
    private static final int MOST_CHANGES = 30;
    private static final int MOST_HOURS = 24, MOST_AN_HOUR = 9, GREATEST_TURN = 9;
    private static final int MOST_TIMES = 60, EMPTIED_ONE_IN = 4;
    private static final int NO_CHIP = 1 << 9;
    /** More steps than a common divisor of two longs can need. */
    private static final int DIVISOR_STEPS = 100;
    /** Halvings that leave one of the thousand numbers 0 to MOST_WOULD_BE. */
    private static final int HALVINGS = 10;

    private final Page page = new Page();
    private final Reader reader = new Reader();
    private final Stand stand = new Stand();
    private final Stand trialStand = new Stand();
    private final Table table = new Table();
    private final Table kept = new Table();
    private final Fill trial = new Fill();
    private boolean imageKept;
    private int towersRead;
    private int changesDone;

    public PouredTopmost() {
    }

    // ---- the tower

    public int letters(long w) {
        int more = lettersIn(w);
        if (more < 0) {
            return OUTSIDE;
        }
        if (page.size + more > MOST_LETTERS) {
            return FULL;
        }
        for (int i = 0; i < more; i++) {
            page.write(codeAt(w, i));
        }
        return page.size;
    }

    public int blank() {
        int had = page.size;
        page.size = 0;
        return had;
    }

    public int fault() {
        reader.start();
        for (int i = 0; i < page.size; i++) {
            if (!reader.goesOnWith(page.codeAt(i))) {
                return i;
            }
        }
        return page.size;
    }

    public int tower() {
        if (fault() < page.size || !reader.mayEnd()) {
            return STATE;
        }
        stand.copyFrom(reader.read);
        table.makeNew();
        page.size = 0;
        imageKept = false;
        towersRead++;
        return stand.size;
    }

    public int about(int glass, int what) {
        if (!stand.has(glass)) {
            return UNKNOWN;
        }
        switch (what) {
            case 0: return stand.kinds[glass];
            case 1: return stand.holds[glass];
            case 2: return stand.takes[glass];
            case 3: return stand.shareCounts[glass];
            case 4:
            case 5:
            case 6: return stand.shareOf(glass, what - 4);
            case 7: return table.turns[glass];
            case 8: return table.fill.isFull(stand, glass) ? 1 : 0;
            default: return OUTSIDE;
        }
    }

    public int as(int glass, int kind) {
        if (!stand.has(glass)) {
            return UNKNOWN;
        }
        if (kind < GLASS || kind > STUCK) {
            return OUTSIDE;
        }
        return stand.isOfKind(glass, kind) ? glass : NONE;
    }

    // ---- pouring

    public int pour(int glass, int measures) {
        if (!stand.has(glass)) {
            return UNKNOWN;
        }
        if (!isFromOneTo(MOST_AT_ONCE, measures)) {
            return OUTSIDE;
        }
        if (table.poured + measures > MOST_POURED) {
            return STATE;
        }
        table.addTo(stand, glass, measures);
        return table.poured;
    }

    public long in(int glass, int part) {
        if (!stand.has(glass)) {
            return UNKNOWN;
        }
        if (!isPart(part)) {
            return OUTSIDE;
        }
        return partOf(table.fill.inside[glass], part);
    }

    public long all(int what, int part) {
        if (what < 0 || what > 1 || !isPart(part)) {
            return OUTSIDE;
        }
        return partOf(what == 0 ? table.fill.spilt : table.fill.together(), part);
    }

    public int drink(int glass) {
        if (!stand.has(glass)) {
            return UNKNOWN;
        }
        if (stand.kinds[glass] == STUCK) {
            return STATE;
        }
        return table.drinkFrom(glass) > 0 ? 1 : 0;
    }

    public long drunk(int glass, int part) {
        if (!stand.has(glass)) {
            return UNKNOWN;
        }
        if (!isPart(part)) {
            return OUTSIDE;
        }
        return partOf(table.drunkFrom[glass], part);
    }

    public int clear() {
        int poured = table.poured;
        table.makeEmpty();
        return poured;
    }

    // ---- what would be

    public int need(int of, int from) {
        if (!stand.has(of) || !stand.has(from)) {
            return UNKNOWN;
        }
        return leastToFill(1 << of, from);
    }

    public int needAll(int set) {
        if (stand.size == 0) {
            return STATE;
        }
        if (!stand.isSet(set)) {
            return OUTSIDE;
        }
        return leastToFill(set, 0);
    }

    public int change(int measures, int what) {
        if (stand.size == 0) {
            return STATE;
        }
        if (!isFromOneTo(MOST_AT_ONCE, measures) || what < 0 || what > 1) {
            return OUTSIDE;
        }
        if (changesDone >= MOST_CHANGES) {
            return STATE;
        }
        changesDone++;
        return bestOfPair(measures, what);
    }

    public long costs(int glass, int measures, int part) {
        if (!stand.has(glass)) {
            return UNKNOWN;
        }
        if (!isFromOneTo(MOST_AT_ONCE, measures) || !isPart(part)) {
            return OUTSIDE;
        }
        trialStand.copyFrom(stand);
        long with = inOthers(glass, measures);
        trialStand.takes[glass] = 0;
        long without = inOthers(glass, measures);
        return partOf(without - with, part);
    }

    // ---- evenings

    public int turn(int glass, int v) {
        if (!stand.has(glass)) {
            return UNKNOWN;
        }
        if (v < 0 || v > GREATEST_TURN) {
            return OUTSIDE;
        }
        if (stand.kinds[glass] == STUCK && v != 0) {
            return STATE;
        }
        int was = table.turns[glass];
        table.turns[glass] = v;
        return was;
    }

    public int evening(int hours, int measures) {
        if (stand.size == 0) {
            return STATE;
        }
        if (!isFromOneTo(MOST_HOURS, hours) || !isFromOneTo(MOST_AN_HOUR, measures)) {
            return OUTSIDE;
        }
        if (table.poured + hours * measures > MOST_POURED) {
            return STATE;
        }
        for (int hour = 1; hour <= hours; hour++) {
            table.addTo(stand, 0, measures);
            table.drinkersOf(hour);
        }
        return table.poured;
    }

    public int chips(int measures) {
        if (stand.size == 0) {
            return STATE;
        }
        if (measures < 0 || measures > MOST_WOULD_BE) {
            return OUTSIDE;
        }
        return chipBits(measures);
    }

    public int alike(int set) {
        if (stand.size == 0) {
            return STATE;
        }
        if (!stand.isSet(set) || Integer.bitCount(set) < 2) {
            return OUTSIDE;
        }
        trial.makeEmpty();
        for (int measures = 1; measures <= MOST_WOULD_BE; measures++) {
            long spiltBefore = trial.spilt;
            trial.addTo(stand, 0, 1);
            if (trial.areAlike(set)) {
                return measures;
            }
            // A measure that is spilt whole has changed no glass, nor will the next ones.
            if (trial.spilt - spiltBefore == MEASURE) {
                return NONE;
            }
        }
        return NONE;
    }

    public int pourings(int times, int seed, int what) {
        if (stand.size == 0) {
            return STATE;
        }
        if (!isFromOneTo(MOST_TIMES, times) || seed < 0 || what < 0 || what > 2) {
            return OUTSIDE;
        }
        int last = pourBySeed(times, seed);
        switch (what) {
            case 0: return trial.howManyFull(stand);
            case 1: return trial.howManyWithNothing(stand);
            default: return last;
        }
    }

    // ---- what is told of all

    public int image() {
        if (stand.size == 0) {
            return STATE;
        }
        kept.copyFrom(table);
        imageKept = true;
        return table.poured;
    }

    public int restore() {
        if (!imageKept) {
            return STATE;
        }
        table.copyFrom(kept);
        return table.poured;
    }

    public int count(int what) {
        switch (what) {
            case 0: return stand.size;
            case 1: return table.poured;
            case 2: return table.fill.howManyFull(stand);
            case 3: return page.size;
            case 4: return towersRead;
            case 5: return changesDone;
            default: return OUTSIDE;
        }
    }

    public long digest() {
        long h = 631;
        for (int glass = 0; glass < stand.size; glass++) {
            h = glassInto(h, glass);
        }
        for (int what = 0; what <= 1; what++) {
            h = into(h, all(what, 0));
            h = into(h, all(what, 1));
        }
        if (stand.size > 0) {
            h = into(h, leastToFill((1 << stand.size) - 1, 0));
            h = into(h, chipBits(Math.min(table.poured, MOST_WOULD_BE)));
        }
        for (int i = 0; i < page.size; i++) {
            h = into(h, page.codeAt(i));
        }
        for (int what = 0; what <= 5; what++) {
            h = into(h, count(what));
        }
        return h;
    }

    // ---- helpers of the calls

    private static boolean isFromOneTo(int greatest, int number) {
        return number >= 1 && number <= greatest;
    }

    private static boolean isPart(int part) {
        return part == 0 || part == 1;
    }

    private static int codeAt(long w, int place) {
        return (int) ((w >>> (8 * place)) & 255L);
    }

    /** How many letters w tells; -1 if it is not as told. */
    private static int lettersIn(long w) {
        int length = 0;
        for (int i = 0; i < LETTERS_AT_ONCE; i++) {
            int code = codeAt(w, i);
            boolean behindEnd = length < i;
            if (code > GREATEST_CODE || (code != 0 && behindEnd)) {
                return -1;
            }
            if (code != 0) {
                length++;
            }
        }
        return length;
    }

    private static int takenBy(int kind, int holds) {
        switch (kind) {
            case CHIPPED: return holds - 1;
            case CORKED:
            case STUCK: return 0;
            default: return holds;
        }
    }

    /** Of so many grains, as a fraction of a measure in lowest terms: 0 above, 1 below. */
    private static long partOf(long grains, int part) {
        long divisor = Math.max(1L, commonDivisor(grains, MEASURE));
        return (part == 0 ? grains : MEASURE) / divisor;
    }

    private static long commonDivisor(long one, long other) {
        long greater = other;
        long lesser = one;
        for (int step = 0; step < DIVISOR_STEPS && lesser != 0; step++) {
            long rest = greater % lesser;
            greater = lesser;
            lesser = rest;
        }
        return greater;
    }

    /** The more is poured the more is in each glass, so that halving finds the least. */
    private int leastToFill(int set, int from) {
        if (!wouldFill(set, from, MOST_WOULD_BE)) {
            return NONE;
        }
        int low = 0;
        int high = MOST_WOULD_BE;
        for (int step = 0; step < HALVINGS && low < high; step++) {
            int middle = (low + high) / 2;
            if (wouldFill(set, from, middle)) {
                high = middle;
            } else {
                low = middle + 1;
            }
        }
        return high;
    }

    private boolean wouldFill(int set, int from, int measures) {
        trial.copyFrom(table.fill);
        trial.addTo(stand, from, measures);
        return trial.areFull(stand, set);
    }

    private int bestOfPair(int measures, int what) {
        trialStand.copyFrom(stand);
        long least = spiltThen(measures);
        int best = NONE;
        for (int lesser = 0; lesser < stand.size; lesser++) {
            for (int greater = lesser + 1; greater < stand.size; greater++) {
                trialStand.exchange(lesser, greater);
                long spilt = spiltThen(measures);
                trialStand.exchange(lesser, greater);
                if (spilt < least) {
                    least = spilt;
                    best = what == 0 ? lesser : greater;
                }
            }
        }
        return best;
    }

    /** What would have been spilt in all, if so much were poured on the trial's stand now. */
    private long spiltThen(int measures) {
        trial.copyFrom(table.fill);
        trial.runOver(trialStand);
        trial.addTo(trialStand, 0, measures);
        return trial.spilt;
    }

    private long inOthers(int glass, int measures) {
        trial.makeEmpty();
        trial.addTo(trialStand, 0, measures);
        trial.takeOut(glass);
        return trial.together();
    }

    private int chipBits(int measures) {
        trialStand.copyFrom(stand);
        int bits = leavesWhatStands(measures) ? NO_CHIP : 0;
        for (int glass = 0; glass < stand.size; glass++) {
            if (stand.kinds[glass] == GLASS) {
                trialStand.takes[glass] = takenBy(CHIPPED, stand.holds[glass]);
                if (leavesWhatStands(measures)) {
                    bits |= 1 << glass;
                }
                trialStand.takes[glass] = stand.takes[glass];
            }
        }
        return bits;
    }

    private boolean leavesWhatStands(int measures) {
        trial.makeEmpty();
        trial.addTo(trialStand, 0, measures);
        return trial.standsAs(table.fill);
    }

    /** Leaves the trial as it would be; answers the seed then. */
    private int pourBySeed(int times, int seed) {
        int now = seed;
        trial.copyFrom(table.fill);
        for (int i = 0; i < times; i++) {
            now = nextSeed(now);
            trial.addTo(stand, drawn(now, stand.size), 1);
            now = nextSeed(now);
            if (drawn(now, EMPTIED_ONE_IN) == 0) {
                now = nextSeed(now);
                trial.takeOut(drawn(now, stand.size));
            }
        }
        return now;
    }

    private static int nextSeed(int seed) {
        return (int) ((1103515245L * seed + 12345L) & 0x7fffffffL);
    }

    private static int drawn(int seed, int howMany) {
        return howMany > 0 ? (seed / 65536) % howMany : 0;
    }

    private static long into(long h, long number) {
        return 31 * h + number;
    }

    private long glassInto(long h, int glass) {
        long next = h;
        for (int what = 0; what <= 8; what++) {
            next = into(next, about(glass, what));
        }
        next = into(next, in(glass, 0));
        next = into(next, in(glass, 1));
        next = into(next, drunk(glass, 0));
        return into(next, drunk(glass, 1));
    }

    /** The page that a tower is written on. */
    private static final class Page {
        final char[] codes = new char[MOST_LETTERS];
        int size;

        void write(int code) {
            if (size < codes.length) {
                codes[size] = (char) code;
                size++;
            }
        }

        char codeAt(int place) {
            return place >= 0 && place < size ? codes[place] : 0;
        }
    }

    /** Reads a tower letter by letter, as far as one can go on so. */
    private static final class Reader {
        private static final int AT_GLASS = 0, AT_HOLDS = 1, BEHIND_HOLDS = 2, AT_SHARES = 3;

        final Stand read = new Stand();
        int place;

        void start() {
            read.size = 0;
            read.putGlass();
            place = AT_GLASS;
        }

        /** Whether a tower can have this letter next; it is read then. */
        boolean goesOnWith(char letter) {
            switch (place) {
                case AT_GLASS: return readsKind(letter) || readsHolds(letter);
                case AT_HOLDS: return readsHolds(letter);
                case BEHIND_HOLDS: return readsColon(letter) || readsNext(letter);
                default: return readsShare(letter) || (mayEndGlass() && readsNext(letter));
            }
        }

        boolean mayEnd() {
            return mayEndGlass() && read.hasAllShares();
        }

        private boolean mayEndGlass() {
            return place == BEHIND_HOLDS || (place == AT_SHARES && read.lastShareCount() > 0);
        }

        private boolean readsKind(char letter) {
            int kind = KIND_LETTERS.indexOf(letter) + 1;
            if (kind == GLASS) {
                return false;
            }
            read.tellKind(kind);
            place = AT_HOLDS;
            return true;
        }

        private boolean readsHolds(char letter) {
            if (letter < '1' || letter > '9') {
                return false;
            }
            read.tellHolds(letter - '0');
            place = BEHIND_HOLDS;
            return true;
        }

        private boolean readsColon(char letter) {
            if (letter != ':') {
                return false;
            }
            place = AT_SHARES;
            return true;
        }

        private boolean readsShare(char letter) {
            if (letter == '-') {
                return read.tellShare(CLOTH);
            }
            int number = letter - '0';
            return number >= read.size && number < MOST_GLASSES && read.tellShare(number);
        }

        private boolean readsNext(char letter) {
            if (letter != '/' || !read.putGlass()) {
                return false;
            }
            place = AT_GLASS;
            return true;
        }
    }

    /** The glasses as they stand: what each takes, and into which it runs over. */
    private static final class Stand {
        final int[] kinds = new int[MOST_GLASSES];
        final int[] holds = new int[MOST_GLASSES];
        /** Beside kinds and holds, as a trial lets a glass take less and run over as before. */
        final int[] takes = new int[MOST_GLASSES];
        final int[] shareCounts = new int[MOST_GLASSES];
        final int[] shares = new int[MOST_GLASSES * MOST_SHARES];
        int size;

        void copyFrom(Stand other) {
            System.arraycopy(other.kinds, 0, kinds, 0, MOST_GLASSES);
            System.arraycopy(other.holds, 0, holds, 0, MOST_GLASSES);
            System.arraycopy(other.takes, 0, takes, 0, MOST_GLASSES);
            System.arraycopy(other.shareCounts, 0, shareCounts, 0, MOST_GLASSES);
            System.arraycopy(other.shares, 0, shares, 0, MOST_GLASSES * MOST_SHARES);
            size = other.size;
        }

        boolean has(int glass) {
            return glass >= 0 && glass < size;
        }

        boolean isSet(int set) {
            return set >= 0 && set < 1 << size;
        }

        boolean isOfKind(int glass, int kind) {
            if (!has(glass)) {
                return false;
            }
            int own = kinds[glass];
            return kind == GLASS || kind == own || (kind == CORKED && own == STUCK);
        }

        int shareOf(int glass, int place) {
            if (!has(glass) || place < 0 || place >= shareCounts[glass]) {
                return NONE;
            }
            return shares[glass * MOST_SHARES + place];
        }

        /** The parts that what runs over is divided into; 0: it has no shares. */
        int partsOf(int glass) {
            if (!has(glass) || shareCounts[glass] == 0) {
                return 0;
            }
            return kinds[glass] == LEANING ? shareCounts[glass] + 1 : shareCounts[glass];
        }

        /** One more glass behind the others; false: there are as many as can be. */
        boolean putGlass() {
            if (size >= MOST_GLASSES) {
                return false;
            }
            kinds[size] = GLASS;
            shareCounts[size] = 0;
            size++;
            return true;
        }

        void tellKind(int kind) {
            if (size > 0) {
                kinds[size - 1] = kind;
            }
        }

        void tellHolds(int measures) {
            if (size > 0) {
                holds[size - 1] = measures;
                takes[size - 1] = takenBy(kinds[size - 1], measures);
            }
        }

        /** One more share of the last glass; false: it has as many as can be. */
        boolean tellShare(int to) {
            int told = lastShareCount();
            if (size == 0 || told >= MOST_SHARES) {
                return false;
            }
            shares[(size - 1) * MOST_SHARES + told] = to;
            shareCounts[size - 1]++;
            return true;
        }

        int lastShareCount() {
            return size > 0 ? shareCounts[size - 1] : 0;
        }

        /** Whether every glass that another one runs over into is there. */
        boolean hasAllShares() {
            for (int glass = 0; glass < size; glass++) {
                for (int place = 0; place < shareCounts[glass]; place++) {
                    int to = shareOf(glass, place);
                    if (to != CLOTH && !has(to)) {
                        return false;
                    }
                }
            }
            return true;
        }

        /** Two glasses are changed about; what they run over into stays with the place. */
        void exchange(int one, int other) {
            if (has(one) && has(other)) {
                exchangeIn(kinds, one, other);
                exchangeIn(holds, one, other);
                exchangeIn(takes, one, other);
            }
        }

        private static void exchangeIn(int[] row, int one, int other) {
            int first = row[one];
            row[one] = row[other];
            row[other] = first;
        }
    }

    /** What is in the glasses, and what was spilt, in grains. */
    private static final class Fill {
        final long[] inside = new long[MOST_GLASSES];
        long spilt;

        void makeEmpty() {
            Arrays.fill(inside, 0L);
            spilt = 0;
        }

        void copyFrom(Fill other) {
            System.arraycopy(other.inside, 0, inside, 0, MOST_GLASSES);
            spilt = other.spilt;
        }

        void addTo(Stand stand, int glass, int measures) {
            if (stand.has(glass)) {
                inside[glass] += measures * MEASURE;
                runOver(stand);
            }
        }

        /** One time in order of number is enough: each runs over into greater ones alone. */
        void runOver(Stand stand) {
            for (int glass = 0; glass < stand.size; glass++) {
                long over = inside[glass] - stand.takes[glass] * MEASURE;
                if (over > 0) {
                    inside[glass] -= over;
                    shareOut(stand, glass, over);
                }
            }
        }

        private void shareOut(Stand stand, int glass, long over) {
            int parts = stand.partsOf(glass);
            if (parts <= 0) {
                spilt += over;
                return;
            }
            int howMany = stand.shareCounts[glass];
            long part = over / parts;
            for (int place = 0; place < howMany; place++) {
                int to = stand.shares[glass * MOST_SHARES + place];
                // The first share is all that the others leave: two parts of a leaning one's.
                long share = place == 0 ? over - part * (howMany - 1) : part;
                if (stand.has(to)) {
                    inside[to] += share;
                } else {
                    spilt += share;
                }
            }
        }

        /** Empties a glass: how much was in it. */
        long takeOut(int glass) {
            if (glass < 0 || glass >= inside.length) {
                return 0;
            }
            long was = inside[glass];
            inside[glass] = 0;
            return was;
        }

        long together() {
            long sum = 0;
            for (long grains : inside) {
                sum += grains;
            }
            return sum;
        }

        boolean isFull(Stand stand, int glass) {
            return stand.has(glass) && inside[glass] == stand.takes[glass] * MEASURE;
        }

        boolean areFull(Stand stand, int set) {
            for (int glass = 0; glass < stand.size; glass++) {
                if ((set >> glass & 1) == 1 && !isFull(stand, glass)) {
                    return false;
                }
            }
            return true;
        }

        int howManyFull(Stand stand) {
            int full = 0;
            for (int glass = 0; glass < stand.size; glass++) {
                if (isFull(stand, glass)) {
                    full++;
                }
            }
            return full;
        }

        int howManyWithNothing(Stand stand) {
            int nothing = 0;
            for (int glass = 0; glass < stand.size; glass++) {
                if (inside[glass] == 0) {
                    nothing++;
                }
            }
            return nothing;
        }

        /** Whether all of a set have as much as one another, and more than nothing. */
        boolean areAlike(int set) {
            long first = 0;
            for (int glass = 0; glass < inside.length; glass++) {
                if ((set >> glass & 1) == 1) {
                    if (inside[glass] == 0 || (first != 0 && inside[glass] != first)) {
                        return false;
                    }
                    first = inside[glass];
                }
            }
            return true;
        }

        boolean standsAs(Fill other) {
            for (int glass = 0; glass < inside.length; glass++) {
                if (inside[glass] != other.inside[glass]) {
                    return false;
                }
            }
            return true;
        }
    }

    /** All that pouring and drinking change: what an image keeps. */
    private static final class Table {
        final Fill fill = new Fill();
        final long[] drunkFrom = new long[MOST_GLASSES];
        final int[] turns = new int[MOST_GLASSES];
        int poured;

        void makeNew() {
            makeEmpty();
            Arrays.fill(turns, 0);
        }

        void makeEmpty() {
            fill.makeEmpty();
            Arrays.fill(drunkFrom, 0L);
            poured = 0;
        }

        void copyFrom(Table other) {
            fill.copyFrom(other.fill);
            System.arraycopy(other.drunkFrom, 0, drunkFrom, 0, MOST_GLASSES);
            System.arraycopy(other.turns, 0, turns, 0, MOST_GLASSES);
            poured = other.poured;
        }

        void addTo(Stand stand, int glass, int measures) {
            fill.addTo(stand, glass, measures);
            poured += measures;
        }

        /** A glass is emptied by its drinker: how much there was. */
        long drinkFrom(int glass) {
            if (glass < 0 || glass >= drunkFrom.length) {
                return 0;
            }
            long was = fill.takeOut(glass);
            drunkFrom[glass] += was;
            return was;
        }

        void drinkersOf(int hour) {
            for (int glass = 0; glass < turns.length; glass++) {
                int turn = turns[glass];
                if (turn > 0 && hour % turn == 0) {
                    drinkFrom(glass);
                }
            }
        }
    }
}
