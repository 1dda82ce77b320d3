/**
 * Hot water that froze first: two pails of four cells each cool by told rounds in an air by night;
 * which was first, by what meaning, how often, and by what cause. ../shared/DOC.md tells what each
 * call promises; words in capitals there are the names here.
 */
public final class FrozeFirst {
    public static final int NONE = -6, UNKNOWN = -1, OUTSIDE = -2, STATE = -3, FULL = -4, NO = -5;
    public static final int GONE = -100000000;
    public static final long LOST = -1000000000000000000L;

    private static final int PAILS = 2;
    private static final int HOT_ONE = 0;
    private static final int COLD_ONE = 1;
    private static final int BOTH = 2;
    private static final int FIRSTS = 3;

    private static final int CELLS = 4;
    private static final int TOP_CELL = 0;
    private static final int LOWEST_CELL = 3;
    private static final int ROUNDS = 600;
    private static final int NEVER = 601;
    private static final int DEGREES = 10;

    private static final int NEEDLE = 0;
    private static final int GLASS_READS = 1;
    private static final int MEANINGS = 3;

    private static final int MOST_START = 100;
    private static final int LEAST_MASS = 10;
    private static final int MOST_MASS = 100;
    private static final long FIRST_ROW = 123210000L;
    private static final long MOST_ROW = 9999999999L;

    private static final int AIR = 0;
    private static final int SIDE = 1;
    private static final int TOP = 2;
    private static final int METAL = 3;
    private static final int ON_RIME = 4;
    private static final int STEAM = 5;
    private static final int MELT = 6;
    private static final int RIME = 7;
    private static final int ICE = 8;
    private static final int GLASS_CELL = 9;
    private static final int CAUSES = 10;
    private static final int ALIKE = 11;
    private static final int[] LEAST_ALIKE = {1, 0, 0, 0, 0, 0, 0, 0, 1, 0, 0};
    private static final int[] MOST_ALIKE = {40, 50, 50, 50, 50, 50, 50, 99, 80, 3, 7};

    private static final int STEAM_BIT = 1;
    private static final int RIME_BIT = 2;
    private static final int TURNING_BIT = 4;
    private static final int CAUSE_NUMBER = 3;
    private static final int CAUSE_SETS = 8;

    private static final int MOST_LOTS = 40;
    private static final int LEAST_SHARE = 6;
    private static final int MOST_SHARE = 10;
    private static final int MOST_DOUBT = 200;
    private static final int MOST_SEED = 9999;
    private static final int MOST_DRAWN = 300;

    private static final int MOST_SIGNS = 60;
    private static final int LEAST_SIGN = 33;
    private static final int MOST_SIGN = 126;
    // The shortest try has two signs and a ';' behind it, so 60 signs hold no more than 20.
    private static final int MOST_TRIES = 20;
    private static final int KEPT_CAUSES = 4;
    private static final int KEPT_SETS = 16;

    private static final int IMAGES = 2;

    private final Held now = new Held();
    private final Held[] images = {new Held(), new Held()};
    private final boolean[] taken = new boolean[IMAGES];
    private final Run run = new Run();
    private final Needles hotNeedles = new Needles();
    private final Needles coldNeedles = new Needles();
    private final Signs signs = new Signs();

    public FrozeFirst() {
    }

    // ---- 1 pails

    public int pail(int pail, int what, int v) {
        if (!isPail(pail)) return UNKNOWN;
        if (what == 0 && within(v, 0, MOST_START)) return exchange(now.night.start, pail, v);
        if (what == 1 && within(v, LEAST_MASS, MOST_MASS)) return exchange(now.night.mass, pail, v);
        return OUTSIDE;
    }

    public long row(int pail, long row) {
        if (!isPail(pail)) return UNKNOWN;
        if (row < 1 || row > MOST_ROW) return OUTSIDE;
        long was = now.night.row[pail];
        now.night.row[pail] = row;
        return was;
    }

    public int set(int which, int v) {
        if (!within(which, 0, ALIKE - 1)) return OUTSIDE;
        if (!within(v, LEAST_ALIKE[which], MOST_ALIKE[which])) return OUTSIDE;
        return exchange(now.night.alike, which, v);
    }

    // ---- 2 runs

    public int time(int pail, int b, int meaning) {
        if (!isPail(pail)) return UNKNOWN;
        if (!isDegree(b) || !isMeaning(meaning)) return OUTSIDE;
        return timeOf(pail, b, meaning, causesAtWork());
    }

    public int at(int pail, int b, int round, int what) {
        if (!isPail(pail)) return GONE + UNKNOWN;
        if (!isDegree(b) || !within(round, 0, ROUNDS) || !within(what, 0, CELLS + 2)) return GONE + OUTSIDE;
        run.fill(now.night, pail, now.night.start[pail], b, causesAtWork());
        run.goOn(round);
        return run.shows(what);
    }

    public int glass(int pail, int b, int cell) {
        if (!isPail(pail) || !within(cell, 0, CELLS - 1)) return UNKNOWN;
        if (!isDegree(b)) return OUTSIDE;
        run.fill(now.night, pail, now.night.start[pail], b, causesAtWork());
        run.putGlass(cell);
        return run.timeBy(GLASS_READS, ROUNDS);
    }

    // ---- 3 first, causes

    public int first(int meaning, int hot, int cold) {
        if (!isMeaning(meaning) || !isDegree(hot) || !isDegree(cold)) return OUTSIDE;
        int hotTime = timeOf(HOT_ONE, hot, meaning, causesAtWork());
        int coldTime = timeOf(COLD_ONE, cold, meaning, causesAtWork());
        return earlier(hotTime, coldTime);
    }

    public long odds(int meaning, int first, int part) {
        if (!isMeaning(meaning) || !isFirst(first) || !isPart(part)) return LOST + OUTSIDE;
        readNeedles(hotNeedles, HOT_ONE, meaning);
        readNeedles(coldNeedles, COLD_ONE, meaning);
        long upper = 0;
        for (int hot = 0; hot < DEGREES; hot++) {
            for (int cold = 0; cold < DEGREES; cold++) {
                if (earlier(hotNeedles.times[hot], coldNeedles.times[cold]) == first) {
                    upper += (long) hotNeedles.often[hot] * coldNeedles.often[cold];
                }
            }
        }
        return partOf(upper, (long) hotNeedles.together * coldNeedles.together, part);
    }

    public int gain(int meaning, int b, int causes) {
        if (!isMeaning(meaning) || !isDegree(b) || !within(causes, 0, CAUSE_SETS - 1)) return GONE + OUTSIDE;
        return gainBy(meaning, b, causes);
    }

    public int could(int meaning, int b, int cause, int what) {
        if (!within(cause, 0, CAUSE_NUMBER - 1)) return GONE + UNKNOWN;
        if (!isMeaning(meaning) || !isDegree(b) || !within(what, 0, 2)) return GONE + OUTSIDE;
        int bit = 1 << cause;
        int least = gainBy(meaning, b, bit) - gainBy(meaning, b, 0);
        if (what == 0) return least;
        int most = least;
        for (int others = 1; others < CAUSE_SETS; others++) {
            if ((others & bit) == 0) {
                int adds = gainBy(meaning, b, others | bit) - gainBy(meaning, b, others);
                least = Math.min(least, adds);
                most = Math.max(most, adds);
            }
        }
        return what == 1 ? least : most;
    }

    public int any(int meaning, int b) {
        if (!isMeaning(meaning) || !isDegree(b)) return OUTSIDE;
        int coldTime = timeOf(COLD_ONE, b, meaning, causesAtWork());
        for (int degrees = now.night.start[COLD_ONE] + 1; degrees <= MOST_START; degrees++) {
            run.fill(now.night, HOT_ONE, degrees, b, causesAtWork());
            // What comes no earlier than the cold one's need not be seen.
            if (run.timeBy(meaning, coldTime - 1) < coldTime) return degrees;
        }
        return NONE;
    }

    public long chance(int k, int n, int part) {
        if (!within(n, 1, MOST_LOTS) || !within(k, 0, n) || !isPart(part)) return LOST + OUTSIDE;
        return partOf(waysOfAtLeast(k, n), 1L << n, part);
    }

    public int pairs(int share, int doubt) {
        if (!within(share, LEAST_SHARE, MOST_SHARE) || !within(doubt, 1, MOST_DOUBT)) return OUTSIDE;
        for (int n = 1; n <= MOST_LOTS; n++) {
            int k = (n * share + 9) / 10;
            if (waysOfAtLeast(k, n) * 1000 <= doubt * (1L << n)) return n;
        }
        return NONE;
    }

    // ---- 4 tries

    public int say(int sign) {
        if (!within(sign, LEAST_SIGN, MOST_SIGN)) return OUTSIDE;
        if (signs.number >= MOST_SIGNS) return FULL;
        signs.add(sign);
        return signs.number;
    }

    public int wipe() {
        int were = signs.number;
        signs.number = 0;
        return were;
    }

    public int fault() {
        return signs.read();
    }

    public int tries() {
        if (signs.read() != NONE) return NO;
        now.tries.take(signs.found);
        signs.number = 0;
        return now.tries.number;
    }

    public int tried(int i, int what) {
        if (!within(i, 0, now.tries.number - 1)) return UNKNOWN;
        if (what == 0) return now.tries.kept[i];
        if (what == 1) return now.tries.ended[i];
        return OUTSIDE;
    }

    public int said(int cause, int what) {
        if (!within(cause, 0, KEPT_CAUSES - 1)) return UNKNOWN;
        if (!within(what, 0, 1)) return OUTSIDE;
        return now.tries.pairsBy(1 << cause, what == 1);
    }

    public int ask() {
        int best = NONE;
        int most = -1;
        for (int kept = 0; kept < KEPT_SETS; kept++) {
            if (!now.tries.has(kept)) {
                int pairs = now.tries.neighbours(kept);
                if (pairs > most) {
                    most = pairs;
                    best = kept;
                }
            }
        }
        return best;
    }

    public int draw(int seed, int n, int meaning, int first) {
        if (!within(seed, 0, MOST_SEED) || !within(n, 1, MOST_DRAWN)) return OUTSIDE;
        if (!isMeaning(meaning) || !isFirst(first)) return OUTSIDE;
        readNeedles(hotNeedles, HOT_ONE, meaning);
        readNeedles(coldNeedles, COLD_ONE, meaning);
        int drawn = seed;
        int many = 0;
        for (int i = 0; i < n; i++) {
            drawn = nextDraw(drawn);
            int hotTime = hotNeedles.timeDrawn(drawn);
            drawn = nextDraw(drawn);
            int coldTime = coldNeedles.timeDrawn(drawn);
            if (earlier(hotTime, coldTime) == first) many++;
        }
        return many;
    }

    public int image(int n) {
        if (!within(n, 0, IMAGES - 1)) return OUTSIDE;
        images[n].take(now);
        taken[n] = true;
        return 1;
    }

    public int restore(int n) {
        if (!within(n, 0, IMAGES - 1)) return OUTSIDE;
        if (!taken[n]) return STATE;
        now.take(images[n]);
        return 1;
    }

    public int told(int what) {
        if (what == 0) return signs.number;
        if (what == 1) return now.tries.number;
        if (within(what, 2, 3)) return now.night.start[what - 2];
        if (within(what, 4, 5)) return now.night.mass[what - 4];
        if (within(what, 10, 20)) return now.night.alike[what - 10];
        return OUTSIDE;
    }

    // ---- what the calls share

    private static boolean within(int v, int least, int most) {
        return v >= least && v <= most;
    }

    private static boolean isPail(int pail) {
        return within(pail, 0, PAILS - 1);
    }

    private static boolean isDegree(int b) {
        return within(b, 0, DEGREES - 1);
    }

    private static boolean isMeaning(int meaning) {
        return within(meaning, 0, MEANINGS - 1);
    }

    private static boolean isFirst(int first) {
        return within(first, 0, FIRSTS - 1);
    }

    private static boolean isPart(int part) {
        return within(part, 0, 1);
    }

    /** Callers have looked at the place. */
    private static int exchange(int[] values, int place, int v) {
        int was = values[place];
        values[place] = v;
        return was;
    }

    private static int earlier(int hotTime, int coldTime) {
        if (hotTime < coldTime) return HOT_ONE;
        return hotTime > coldTime ? COLD_ONE : BOTH;
    }

    private static int nextDraw(int drawn) {
        return (drawn * 75 + 74) % 65537;
    }

    /** How many of the 2^n ways in which n lots may fall have k or more on the one side. */
    private static long waysOfAtLeast(int k, int n) {
        long ways = 1;
        long together = 0;
        for (int i = 0; i <= n; i++) {
            if (i >= k) together += ways;
            ways = ways * (n - i) / (i + 1);
        }
        return together;
    }

    private static long partOf(long upper, long lower, int part) {
        long divisor = commonDivisor(upper, lower);
        if (divisor < 1) return 0;
        return (part == 0 ? upper : lower) / divisor;
    }

    private static long commonDivisor(long a, long b) {
        long one = a;
        long other = b;
        // A step of Euclid halves the numbers at least every second time, so 200 are plenty.
        for (int i = 0; i < 200 && other != 0; i++) {
            long rest = one % other;
            one = other;
            other = rest;
        }
        return one;
    }

    private int causesAtWork() {
        return now.night.alike[CAUSES];
    }

    private int timeOf(int pail, int b, int meaning, int causes) {
        run.fill(now.night, pail, now.night.start[pail], b, causes);
        return run.timeBy(meaning, ROUNDS);
    }

    private int gainBy(int meaning, int b, int causes) {
        return timeOf(COLD_ONE, b, meaning, causes) - timeOf(HOT_ONE, b, meaning, causes);
    }

    private void readNeedles(Needles needles, int pail, int meaning) {
        needles.readRow(now.night.row[pail]);
        for (int b = 0; b < DEGREES; b++) {
            // A degree at which freezing never begins counts for nothing: its run is spared.
            if (needles.often[b] > 0) needles.times[b] = timeOf(pail, b, meaning, causesAtWork());
        }
    }

    /** What is told of the pails, and of what is alike for both. */
    private static final class Night {
        final int[] start = {90, 20};
        final int[] mass = {100, 100};
        final long[] row = {FIRST_ROW, FIRST_ROW};
        final int[] alike = {10, 4, 8, 12, 2, 10, 8, 40, 20, 1, 7};

        void take(Night other) {
            System.arraycopy(other.start, 0, start, 0, PAILS);
            System.arraycopy(other.mass, 0, mass, 0, PAILS);
            System.arraycopy(other.row, 0, row, 0, PAILS);
            System.arraycopy(other.alike, 0, alike, 0, ALIKE);
        }
    }

    /** All that an image keeps. */
    private static final class Held {
        final Night night = new Night();
        final Tries tries = new Tries();

        void take(Held other) {
            night.take(other.night);
            tries.take(other.tries);
        }
    }

    /** One pail that cools, round by round. The object is filled anew for each run. */
    private static final class Run {
        private static final int LEAST_LEFT = 10000;
        private static final int STILL_WARMTH = 400;

        private final int[] cells = new int[CELLS];
        private final int[] losses = new int[CELLS];
        private final int[] rates = new int[CELLS];
        private int rateOnRime;
        private int air;
        private int steam;
        private int melt;
        private int needleAt;
        private int enoughFrost;
        private int causes;
        private int glassCell;

        private int left;
        private int rime;
        private int frost;
        private int round;
        private int begun;
        private int reads;
        private int last;

        void fill(Night night, int pail, int degrees, int b, int atWork) {
            int[] alike = night.alike;
            for (int cell = 0; cell < CELLS; cell++) {
                cells[cell] = 100 * degrees;
                rates[cell] = alike[SIDE];
            }
            rates[TOP_CELL] += alike[TOP];
            rates[LOWEST_CELL] += alike[METAL];
            rateOnRime = alike[SIDE] + alike[ON_RIME];
            air = 100 * alike[AIR];
            steam = alike[STEAM];
            melt = alike[MELT];
            needleAt = -100 * b;
            enoughFrost = 400 * alike[ICE];
            causes = atWork;
            putGlass(alike[GLASS_CELL]);
            left = within(pail, 0, PAILS - 1) ? 1000 * night.mass[pail] : LEAST_LEFT;
            rime = alike[RIME];
            frost = 0;
            round = 0;
            begun = NEVER;
            reads = NEVER;
            last = NEVER;
        }

        /** For a glass that stands elsewhere than the night tells. */
        void putGlass(int cell) {
            glassCell = within(cell, 0, CELLS - 1) ? cell : TOP_CELL;
        }

        void goOn(int rounds) {
            for (int i = 0; i < rounds && last == NEVER; i++) {
                oneRound();
            }
        }

        /** The run is gone on with until what is meant has come, and no farther than the told rounds. */
        int timeBy(int meaning, int rounds) {
            for (int i = 0; i < rounds && last == NEVER && known(meaning) == NEVER; i++) {
                oneRound();
            }
            return known(meaning);
        }

        int shows(int what) {
            if (within(what, 0, CELLS - 1)) return cells[what];
            if (what == CELLS) return left;
            return what == CELLS + 1 ? rime : frost;
        }

        private int known(int meaning) {
            if (meaning == NEEDLE) return begun;
            return meaning == GLASS_READS ? reads : last;
        }

        private boolean works(int bit) {
            return (causes & bit) != 0;
        }

        private void oneRound() {
            round++;
            int topWarmth = cells[TOP_CELL];
            int lowestWarmth = cells[LOWEST_CELL];
            reckonLosses();
            if (works(STEAM_BIT) && topWarmth > 0) left = Math.max(LEAST_LEFT, left - topWarmth * steam / 1000);
            if (works(RIME_BIT) && lowestWarmth > 0) rime = Math.max(0, rime - lowestWarmth * melt / 10000);
            for (int cell = 0; cell < CELLS; cell++) {
                cells[cell] -= losses[cell];
            }
            if (works(TURNING_BIT)) turnAbout();
            freeze();
            if (reads == NEVER && cells[glassCell] <= 0) reads = round;
        }

        private void reckonLosses() {
            boolean onRime = works(RIME_BIT) && rime > 0;
            int divisor = Math.max(LEAST_LEFT, left);
            for (int cell = 0; cell < CELLS; cell++) {
                int rate = onRime && cell == LOWEST_CELL ? rateOnRime : rates[cell];
                losses[cell] = (cells[cell] + air) * rate / 1000 * 100000 / divisor;
            }
        }

        private void turnAbout() {
            for (int upper = 0; upper + 1 < CELLS; upper++) {
                int lower = upper + 1;
                if (fromStill(cells[lower]) > fromStill(cells[upper])) {
                    int together = cells[upper] + cells[lower];
                    cells[upper] = Math.floorDiv(together, 2);
                    cells[lower] = together - cells[upper];
                }
            }
        }

        /** Water is heaviest at four degrees: what is nearer to that sinks. */
        private static int fromStill(int warmth) {
            int off = warmth - STILL_WARMTH;
            return off < 0 ? -off : off;
        }

        private void freeze() {
            if (begun != NEVER) {
                frost += takeBelowNought();
                if (frost >= enoughFrost) last = round;
            } else if (needleStands()) {
                begun = round;
                takeBelowNought();
            }
        }

        private boolean needleStands() {
            for (int cell = 0; cell < CELLS; cell++) {
                if (cells[cell] <= needleAt) return true;
            }
            return false;
        }

        private int takeBelowNought() {
            int together = 0;
            for (int cell = 0; cell < CELLS; cell++) {
                if (cells[cell] < 0) {
                    together -= cells[cell];
                    cells[cell] = 0;
                }
            }
            return together;
        }
    }

    /** How often a pail begins at each degree, and when what is meant comes then. */
    private static final class Needles {
        final int[] often = new int[DEGREES];
        final int[] times = new int[DEGREES];
        int together;

        void readRow(long row) {
            long rest = row;
            together = 0;
            for (int b = DEGREES - 1; b >= 0; b--) {
                often[b] = (int) (rest % 10);
                together += often[b];
                rest /= 10;
            }
        }

        int timeDrawn(int drawn) {
            if (together < 1) return NEVER;
            int number = drawn % together;
            for (int b = 0; b < DEGREES; b++) {
                if (number < often[b]) return times[b];
                number -= often[b];
            }
            return NEVER;
        }
    }

    /** Tries: what each kept alike, as bits, and how it ended. */
    private static final class Tries {
        final int[] kept = new int[MOST_TRIES];
        final int[] ended = new int[MOST_TRIES];
        int number;

        void add(int keptAlike, int end) {
            if (number >= MOST_TRIES) return;
            kept[number] = keptAlike;
            ended[number] = end;
            number++;
        }

        void take(Tries other) {
            System.arraycopy(other.kept, 0, kept, 0, MOST_TRIES);
            System.arraycopy(other.ended, 0, ended, 0, MOST_TRIES);
            number = other.number;
        }

        boolean has(int keptAlike) {
            for (int i = 0; i < number && i < MOST_TRIES; i++) {
                if (kept[i] == keptAlike) return true;
            }
            return false;
        }

        /** How many differ by one cause alone from what kept this alike. */
        int neighbours(int keptAlike) {
            int many = 0;
            for (int i = 0; i < number && i < MOST_TRIES; i++) {
                if (Integer.bitCount(kept[i] ^ keptAlike) == 1) many++;
            }
            return many;
        }

        int pairsBy(int bit, boolean alike) {
            int many = 0;
            for (int i = 0; i < number && i < MOST_TRIES; i++) {
                for (int j = 0; j < i; j++) {
                    if ((kept[i] ^ kept[j]) == bit && (ended[i] == ended[j]) == alike) many++;
                }
            }
            return many;
        }
    }

    /** The text of signs, and the tries that it tells. */
    private static final class Signs {
        private static final String LETTERS = "srtn";
        private static final String ENDS = "><=";

        private static final int AT_START = 0;
        private static final int IN_LETTERS = 1;
        private static final int BEHIND_NOTHING = 2;
        private static final int BEHIND_END = 3;

        final Tries found = new Tries();
        int number;
        private final int[] codes = new int[MOST_SIGNS];
        private int place;
        private int kept;

        void add(int sign) {
            if (number >= MOST_SIGNS) return;
            codes[number] = sign;
            number++;
        }

        /** THE FAULT, or NONE: then what was found are the tries. */
        int read() {
            found.number = 0;
            place = AT_START;
            kept = 0;
            for (int i = 0; i < number && i < MOST_SIGNS; i++) {
                if (!stands((char) codes[i])) return i;
            }
            return place == BEHIND_END ? NONE : number;
        }

        private boolean stands(char sign) {
            if (place == BEHIND_END) return betweenStands(sign);
            if (place == AT_START && sign == '-') {
                place = BEHIND_NOTHING;
                return true;
            }
            if (place != AT_START && ENDS.indexOf(sign) >= 0) {
                found.add(kept, ENDS.indexOf(sign));
                place = BEHIND_END;
                return true;
            }
            return place != BEHIND_NOTHING && letterStands(sign);
        }

        private boolean betweenStands(char sign) {
            if (sign != ';') return false;
            place = AT_START;
            kept = 0;
            return true;
        }

        private boolean letterStands(char sign) {
            int letter = LETTERS.indexOf(sign);
            if (letter < 0) return false;
            int bit = 1 << letter;
            if ((kept & bit) != 0) return false;
            kept |= bit;
            place = IN_LETTERS;
            return true;
        }
    }
}
