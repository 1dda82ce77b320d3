/**
 * The edges of what is first and of causes (Terms, 3; promises 8 to 14), a test for each sentence that names one: at the
 * edge, a step on this side and a step on that.
 */
public final class CauseEdgesTest {
    private static final Due DUE = new Due();
    private static final int NONE = FrozeFirst.NONE;
    private static final int OUTSIDE = FrozeFirst.OUTSIDE;
    private static final int GONE_OUTSIDE = FrozeFirst.GONE + FrozeFirst.OUTSIDE;
    private static final long LOST_OUTSIDE = FrozeFirst.LOST + FrozeFirst.OUTSIDE;

    public static void main(String[] args) {
        firstByOneRound();
        firstIfNoneComes();
        firstInTheLastRound();
        oddsOfNoneAndAll();
        oddsInLowestTerms();
        oddsOfTheLeastAndTheMostRow();
        eachPailByItself();
        gainByOneRound();
        gainAtItsFarthest();
        gainByEachSet();
        aloneIsLessThatByNone();
        couldByEachSet();
        couldBelowNought();
        anyAboveTheColdOne();
        anyUpToHundred();
        anyIsTheLeast();
        anyMustBeFirst();
        anyAsCausesAre();
        anyWhateverIsTold();
        chanceOfAllAndNone();
        chanceOfOneLot();
        chanceOfFortyLots();
        chanceOfMoreThanAll();
        chanceInLowestTerms();
        pairsJustAtTheDoubt();
        pairsUpToForty();
        pairsCutUp();
        pairsOfAllShares();
        DUE.end();
    }

    /** By SIDE alone, no cause at work. An air of 20 by 50: -100, -195, -285, -370: degrees 1, 2, 3 in rounds 1, 3, 4. */
    private static FrozeFirst pails(int hot, int cold) {
        FrozeFirst x = new FrozeFirst();
        x.set(0, 20);
        x.set(1, 50);
        x.set(2, 0);
        x.set(3, 0);
        x.set(4, 0);
        x.set(10, 0);
        x.pail(0, 0, hot);
        x.pail(1, 0, cold);
        return x;
    }

    /** Nothing is lost at all. */
    private static FrozeFirst still(int hot, int cold) {
        FrozeFirst x = pails(hot, cold);
        x.set(1, 0);
        return x;
    }

    /** "0 the hot one, 1 the cold one, 2 both": a round ahead, the same round, a round behind. */
    private static void firstByOneRound() {
        FrozeFirst x = pails(0, 0);
        int[] rounds = {1, 1, 3, 4};
        for (int b = 0; b < 4; b++) {
            DUE.due("needle by " + b, x.time(0, b, 0), rounds[b]);
            DUE.due("needle of the cold one by " + b, x.time(1, b, 0), rounds[b]);
        }
        DUE.due("a round ahead", x.first(0, 2, 3), 0);
        DUE.due("a round behind", x.first(0, 3, 2), 1);
        DUE.due("the same round, one degree", x.first(0, 2, 2), 2);
        DUE.due("the same round, two degrees", x.first(0, 0, 1), 2);
        DUE.due("the same round, the other way", x.first(0, 1, 0), 2);
    }

    /** Both do not come: both; 601 is behind all rounds. */
    private static void firstIfNoneComes() {
        FrozeFirst x = still(1, 1);
        for (int meaning = 0; meaning < 3; meaning++) DUE.due("none comes", x.first(meaning, 0, 9), 2);
        x = still(0, 1);
        DUE.due("the cold one does not come", x.first(0, 0, 0), 0);
        x = still(1, 0);
        DUE.due("the hot one does not come", x.first(0, 0, 0), 1);
        x = still(0, 0);
        DUE.due("by its degree alone", x.first(0, 1, 0), 1);
        DUE.due("by its degree, the other way", x.first(0, 0, 1), 0);
    }

    /** In round 600 is ahead of what does not come. */
    private static void firstInTheLastRound() {
        FrozeFirst x = pails(6, 6);
        x.set(0, 10);
        x.set(1, 1);
        // One in a round; nought in round 600, but one degree below never.
        DUE.due("in round 600", x.time(0, 0, 0), 600);
        DUE.due("ahead of none", x.first(0, 0, 1), 0);
        DUE.due("behind none", x.first(0, 1, 0), 1);
        DUE.due("both in round 600", x.first(0, 0, 0), 2);
        x.pail(1, 0, 7);
        DUE.due("the cold one would be in round 700", x.time(1, 0, 0), 601);
        DUE.due("600 is ahead", x.first(0, 0, 0), 0);
    }

    private static void oddsDue(FrozeFirst x, int first, long upper, long lower) {
        DUE.due("odds(0, " + first + ", 0)", x.odds(0, first, 0), upper);
        DUE.due("odds(0, " + first + ", 1)", x.odds(0, first, 1), lower);
    }

    /** Never is 0 of 1, always 1 of 1. */
    private static void oddsOfNoneAndAll() {
        FrozeFirst x = pails(0, 0);
        x.row(0, 1000000000L);
        x.row(1, 1L);
        oddsDue(x, 0, 1, 1);
        oddsDue(x, 1, 0, 1);
        oddsDue(x, 2, 0, 1);
        x.row(1, 9000000000L);
        oddsDue(x, 0, 0, 1);
        oddsDue(x, 1, 0, 1);
        oddsDue(x, 2, 1, 1);
    }

    /** "in lowest terms": 18 of 81 are 2 of 9; 3 of 5 are as low as can be. */
    private static void oddsInLowestTerms() {
        FrozeFirst x = pails(0, 0);
        // Always at 0, and at 3 twice of nine times, else at 0: 9 times 2 of 9 times 9.
        x.row(0, 9000000000L);
        x.row(1, 7002000000L);
        oddsDue(x, 0, 2, 9);
        oddsDue(x, 2, 7, 9);
        oddsDue(x, 1, 0, 1);
        x.row(1, 2003000000L);
        oddsDue(x, 0, 3, 5);
        oddsDue(x, 2, 2, 5);
    }

    /** ROWS at their bounds: 0000000001 is at nine degrees alone, 9999999999 at all alike. */
    private static void oddsOfTheLeastAndTheMostRow() {
        FrozeFirst x = pails(0, 0);
        x.row(0, 1L);
        x.row(1, 9999999999L);
        // Of ten degrees of the cold one nine are reached ahead of the ninth.
        oddsDue(x, 0, 0, 1);
        oddsDue(x, 1, 9, 10);
        oddsDue(x, 2, 1, 10);
        x.row(0, 2L);
        oddsDue(x, 1, 9, 10);
        x.row(0, 9999999999L);
        x.row(1, 9999999998L);
        // 90 by 89: alike are those at 0 and at 1, in twos; each other one by itself.
        DUE.due("lower of the most", x.odds(0, 2, 1), lowered(18 * 18 + 7 * 81 + 9 * 8, 90 * 89));
        DUE.due("upper of the most", x.odds(0, 2, 0), (18 * 18 + 7 * 81 + 9 * 8) * lowered(18 * 18 + 7 * 81 + 9 * 8, 90 * 89) / (90 * 89));
    }

    private static long lowered(long upper, long lower) {
        long divisor = lower;
        while (upper % divisor != 0 || lower % divisor != 0) divisor--;
        return lower / divisor;
    }

    /** "by both ROWS, each PAIL by itself": the product, and not the same degree for both. */
    private static void eachPailByItself() {
        FrozeFirst x = pails(0, 0);
        x.row(0, 10010000L);
        x.row(1, 10010000L);
        // At 2 and at 5, half and half: rounds 3 and later; ahead in one of four.
        DUE.holds("two rounds", x.time(0, 2, 0) < x.time(0, 5, 0));
        oddsDue(x, 0, 1, 4);
        oddsDue(x, 1, 1, 4);
        oddsDue(x, 2, 1, 2);
    }

    /** "TIME of the cold one less that of the hot one": 1, 0, -1. */
    private static void gainByOneRound() {
        FrozeFirst x = pails(0, 1);
        x.set(0, 10);
        // From 1 degree 55, then 52: round 2. From nought: round 1.
        DUE.due("a round", x.gain(0, 0, 0), 1);
        x.pail(0, 0, 1);
        DUE.due("none", x.gain(0, 0, 0), 0);
        x.pail(1, 0, 0);
        DUE.due("a round less", x.gain(0, 0, 0), -1);
    }

    /** The farthest that can be: round 1 against none; the refusal is far below. */
    private static void gainAtItsFarthest() {
        DUE.due("the cold one never", still(0, 1).gain(0, 0, 0), 600);
        DUE.due("the hot one never", still(1, 0).gain(0, 0, 0), -600);
        DUE.due("both never", still(1, 1).gain(0, 0, 0), 0);
        DUE.due("no such set", still(1, 0).gain(0, 0, 8), GONE_OUTSIDE);
    }

    /** "by some CAUSES (bits 0 to 7)": those asked of, not those at work. */
    private static void gainByEachSet() {
        FrozeFirst x = new FrozeFirst();
        int[] asked = new int[8];
        for (int causes = 0; causes < 8; causes++) asked[causes] = x.gain(0, 4, causes);
        for (int causes = 0; causes < 8; causes++) {
            x.set(10, causes);
            DUE.due("by times, causes " + causes, x.time(1, 4, 0) - x.time(0, 4, 0), asked[causes]);
            DUE.due("gain by none", x.gain(0, 4, 0), asked[0]);
            DUE.due("gain by all", x.gain(0, 4, 7), asked[7]);
            DUE.due("gain by -1", x.gain(0, 4, -1), GONE_OUTSIDE);
            DUE.due("gain by 8", x.gain(0, 4, 8), GONE_OUTSIDE);
        }
        // What each cause adds to none, to all but itself, worked out by the second reckoning.
        DUE.due("all three", asked[7], new Plain().gain(0, 4, 7));
    }

    /** "A CAUSE alone: GAIN by it less that by none". */
    private static void aloneIsLessThatByNone() {
        FrozeFirst x = new FrozeFirst();
        for (int meaning = 0; meaning < 3; meaning++) {
            for (int cause = 0; cause < 3; cause++) {
                int want = x.gain(meaning, 4, 1 << cause) - x.gain(meaning, 4, 0);
                DUE.due("alone " + cause, x.could(meaning, 4, cause, 0), want);
                DUE.due("no -1", x.could(meaning, 4, cause, -1), GONE_OUTSIDE);
                DUE.due("no 3", x.could(meaning, 4, cause, 3), GONE_OUTSIDE);
            }
        }
    }

    /**
     * "the least and the greatest of what it adds to any CAUSES without it": STEAM, RIME, MEANING, b, CAUSE, then what
     * it adds to the four sets without it, in order. Each of the four is the least in some row, and the greatest in some.
     */
    private static final int[][] ADDS = {
        {10, 40, 0, 2, 0, 3, 4, 6, 6}, {30, 40, 2, 4, 0, 55, 54, 100, 100}, {50, 99, 1, 9, 0, 113, 113, 79, 81},
        {20, 99, 2, 8, 0, 30, 31, 11, 10}, {10, 40, 2, 9, 0, 3, 2, 0, 0}, {10, 99, 2, 8, 0, 3, 4, 0, 0},
        {10, 40, 0, 1, 0, 4, 4, 6, 5}, {10, 40, 0, 3, 0, 4, 4, 6, 7}, {10, 40, 1, 9, 1, 0, 3, 8, 8},
        {10, 40, 0, 3, 1, 21, 21, 5, 6}, {10, 40, 0, 1, 1, 21, 21, 6, 5}, {10, 40, 2, 9, 1, 17, 16, 8, 8},
        {10, 40, 0, 2, 1, 22, 23, 5, 5}, {50, 40, 0, 0, 1, 20, 21, 58, 57}, {10, 99, 0, 0, 1, 14, 14, 70, 71},
        {10, 40, 0, 0, 2, 0, 1, 38, 39}, {50, 40, 1, 9, 2, 146, 112, 154, 119}, {10, 40, 0, 1, 2, 56, 58, 41, 42},
        {10, 40, 2, 8, 2, 9, 6, 1, -2}, {30, 99, 1, 9, 2, 146, 196, 210, 206}};

    private static void couldByEachSet() {
        for (int[] row : ADDS) {
            FrozeFirst x = new FrozeFirst();
            x.set(5, row[0]);
            x.set(7, row[1]);
            int least = row[5];
            int most = row[5];
            int place = 5;
            for (int others = 0; others < 8; others++) {
                int with = others | 1 << row[4];
                if (with == others) continue;
                DUE.due("what it adds to " + others, x.gain(row[2], row[3], with) - x.gain(row[2], row[3], others), row[place]);
                least = Math.min(least, row[place]);
                most = Math.max(most, row[place]);
                place++;
            }
            String call = "could(" + row[2] + ", " + row[3] + ", " + row[4] + ", ";
            DUE.due(call + "0)", x.could(row[2], row[3], row[4], 0), row[5]);
            DUE.due(call + "1)", x.could(row[2], row[3], row[4], 1), least);
            DUE.due(call + "2)", x.could(row[2], row[3], row[4], 2), most);
        }
    }

    /** It may be below 0: turning by the last drop at eight degrees, of what steam and rime have done. */
    private static void couldBelowNought() {
        FrozeFirst x = new FrozeFirst();
        DUE.due("least below nought", x.could(2, 8, 2, 1), -2);
        DUE.due("greatest above", x.could(2, 8, 2, 2), 9);
        DUE.due("no such cause", x.could(2, 8, 3, 1), FrozeFirst.GONE + FrozeFirst.UNKNOWN);
        DUE.due("no such cause, below", x.could(2, 8, -1, 1), FrozeFirst.GONE + FrozeFirst.UNKNOWN);
    }

    /** "the least START of the hot one above the cold one's": not the cold one's own, nor a lower one. */
    private static void anyAboveTheColdOne() {
        for (int cold : new int[] {0, 1, 2, 50, 98}) {
            FrozeFirst x = pails(0, cold);
            // With a tenth of the water it is first from any START near the cold one's.
            x.pail(0, 1, 10);
            x.pail(0, 0, cold);
            DUE.due("first at the cold one's own", x.first(0, 4, 4), 0);
            DUE.due("one above " + cold, x.any(0, 4), cold + 1);
        }
    }

    /** START goes up to 100: 99 leaves one to try, 100 none. */
    private static void anyUpToHundred() {
        FrozeFirst x = pails(0, 98);
        x.pail(0, 1, 50);
        DUE.due("98", x.any(0, 4), 99);
        x.pail(1, 0, 99);
        DUE.due("99", x.any(0, 4), 100);
        x.pail(1, 0, 100);
        DUE.due("100", x.any(0, 4), NONE);
        // By this steam a cold one of 37 degrees has its last drop ahead of a hot one of up to 99, but not of 100.
        FrozeFirst y = new FrozeFirst();
        y.set(5, 30);
        y.pail(1, 0, 37);
        DUE.due("100 alone", y.any(2, 1), 100);
        for (int start = 38; start <= 99; start++) {
            y.pail(0, 0, start);
            DUE.holds("not first at " + start, y.first(2, 1, 1) != 0);
        }
        y.pail(0, 0, 100);
        DUE.due("first at 100", y.first(2, 1, 1), 0);
        y.pail(1, 0, 36);
        DUE.due("not against one of 36", y.first(2, 1, 1) == 0 ? 1 : 0, 0);
        DUE.due("nor any other", y.any(2, 1), NONE);
    }

    /** "the least START": 51 and not 50, while 49 to 21 are no better, and 52 would do as well. */
    private static void anyIsTheLeast() {
        FrozeFirst x = new FrozeFirst();
        DUE.due("any(0, 4)", x.any(0, 4), 51);
        for (int start = 21; start <= 50; start++) {
            x.pail(0, 0, start);
            DUE.holds("not first at " + start, x.first(0, 4, 4) != 0);
        }
        for (int start = 51; start <= 52; start++) {
            x.pail(0, 0, start);
            DUE.due("first at " + start, x.first(0, 4, 4), 0);
        }
        x.pail(1, 0, 50);
        x.pail(0, 0, 51);
        int moved = x.any(0, 4);
        DUE.holds("above the cold one's new START", moved == NONE || moved > 50);
    }

    /** "by which it is FIRST": the hot one, not both; a round ahead is enough. */
    private static void anyMustBeFirst() {
        FrozeFirst x = pails(9, 0);
        x.pail(0, 1, 10);
        // In round 1 both are at nought: no START is ahead.
        DUE.due("both in round 1", x.any(0, 0), NONE);
        // From 1 degree half of the water is at -110 in round 2 (110, then 98); the cold one in round 3 (an air of 10).
        x.set(0, 10);
        x.pail(0, 1, 50);
        DUE.due("the cold one", x.time(1, 1, 0), 3);
        DUE.due("one round ahead", x.any(0, 1), 1);
        x.pail(0, 0, 1);
        DUE.due("the hot one", x.time(0, 1, 0), 2);
        // Two thirds of it: 83, 71: round 3 as well.
        x.pail(0, 1, 66);
        DUE.due("the same round", x.time(0, 1, 0), 3);
        DUE.due("is not first", x.any(0, 1), NONE);
        DUE.due("none comes: none is first", still(5, 1).any(2, 9), NONE);
        // What comes at all is ahead of what does not: by the needle from 2 degrees on, the cold one of nine degrees never.
        FrozeFirst y = pails(50, 1);
        y.set(0, 1);
        y.set(1, 1);
        DUE.due("the cold one never", y.time(1, 0, 0), 601);
        y.pail(0, 1, 10);
        int want = NONE;
        for (int start = 100; start >= 2; start--) {
            y.pail(0, 0, start);
            if (y.time(0, 0, 0) < 601) want = start;
        }
        DUE.due("as soon as the hot one comes", y.any(0, 0), want);
    }

    /** "(as CAUSES are)". */
    private static void anyAsCausesAre() {
        FrozeFirst x = new FrozeFirst();
        DUE.due("all at work", x.any(0, 4), 51);
        x.set(10, 0);
        DUE.due("none at work", x.any(0, 4), NONE);
        for (int causes = 0; causes < 8; causes++) {
            x.set(10, causes);
            Plain plain = new Plain();
            plain.alike[10] = causes;
            DUE.due("causes " + causes, x.any(0, 4), plain.any(0, 4));
        }
    }

    /** "what is told of it does not matter": the hot one's START may be any, and stays. */
    private static void anyWhateverIsTold() {
        FrozeFirst x = new FrozeFirst();
        for (int start : new int[] {0, 1, 19, 20, 21, 50, 51, 52, 99, 100}) {
            x.pail(0, 0, start);
            DUE.due("any with START " + start, x.any(0, 4), 51);
            DUE.due("START stays", x.told(2), start);
        }
    }

    private static void chanceDue(int k, int n, long upper, long lower) {
        FrozeFirst x = new FrozeFirst();
        DUE.due("chance(" + k + ", " + n + ", 0)", x.chance(k, n, 0), upper);
        DUE.due("chance(" + k + ", " + n + ", 1)", x.chance(k, n, 1), lower);
    }

    /** "k 0 to n": none or more is always so, all of n one of 2^n, one or more all but that. */
    private static void chanceOfAllAndNone() {
        for (int n = 1; n <= 40; n++) {
            long ways = 1L << n;
            chanceDue(0, n, 1, 1);
            chanceDue(1, n, ways - 1, ways);
            chanceDue(n, n, 1, ways);
            if (n > 2) chanceDue(n - 1, n, (n + 1) / odd(n + 1), ways / odd(n + 1));
        }
    }

    /** The greatest power of 2 in it. */
    private static int odd(int v) {
        return Integer.lowestOneBit(v);
    }

    /** "n (1 to 40)". */
    private static void chanceOfOneLot() {
        chanceDue(0, 1, 1, 1);
        chanceDue(1, 1, 1, 2);
        chanceDue(0, 2, 1, 1);
        chanceDue(1, 2, 3, 4);
        chanceDue(2, 2, 1, 4);
        chanceDue(0, 0, LOST_OUTSIDE, LOST_OUTSIDE);
        chanceDue(0, -1, LOST_OUTSIDE, LOST_OUTSIDE);
        chanceDue(-1, 0, LOST_OUTSIDE, LOST_OUTSIDE);
    }

    private static void chanceOfFortyLots() {
        // Half of the others and half of those that fall evenly: 2^39 and 137846528820 by 2.
        chanceDue(20, 40, (549755813888L + 68923264410L) / 2, 549755813888L);
        chanceDue(21, 40, (549755813888L - 68923264410L) / 2, 549755813888L);
        chanceDue(20, 39, 1, 2);
        chanceDue(40, 40, 1, 1099511627776L);
        chanceDue(39, 40, 41, 1099511627776L);
        chanceDue(0, 40, 1, 1);
        chanceDue(0, 41, LOST_OUTSIDE, LOST_OUTSIDE);
        chanceDue(41, 41, LOST_OUTSIDE, LOST_OUTSIDE);
        chanceDue(20, 64, LOST_OUTSIDE, LOST_OUTSIDE);
    }

    /** k by n: one more than n, and less than none, are OUTSIDE. */
    private static void chanceOfMoreThanAll() {
        for (int n = 1; n <= 40; n++) {
            chanceDue(n + 1, n, LOST_OUTSIDE, LOST_OUTSIDE);
            chanceDue(-1, n, LOST_OUTSIDE, LOST_OUTSIDE);
        }
        FrozeFirst x = new FrozeFirst();
        DUE.due("no part -1", x.chance(1, 2, -1), LOST_OUTSIDE);
        DUE.due("no part 2", x.chance(1, 2, 2), LOST_OUTSIDE);
    }

    /** "in lowest terms": 4 of 8 are 1 of 2; 26 of 32 are 13 of 16. */
    private static void chanceInLowestTerms() {
        chanceDue(2, 3, 1, 2);
        chanceDue(2, 5, 13, 16);
        chanceDue(3, 5, 1, 2);
        chanceDue(3, 4, 5, 16);
        chanceDue(4, 7, 1, 2);
    }

    private static void pairsDue(int share, int doubt, int want) {
        DUE.due("pairs(" + share + ", " + doubt + ")", new FrozeFirst().pairs(share, doubt), want);
    }

    /** "no more than the DOUBT": all of three are just 125 of a thousand. */
    private static void pairsJustAtTheDoubt() {
        for (int share = 7; share <= 10; share++) {
            pairsDue(share, 126, 3);
            pairsDue(share, 125, 3);
        }
        pairsDue(7, 124, 6);
        pairsDue(8, 124, 4);
        pairsDue(9, 124, 4);
        pairsDue(10, 124, 4);
        // One of 16 is 62.5 of a thousand: 63, not 62.
        pairsDue(10, 63, 4);
        pairsDue(10, 62, 5);
        // One of 1024 is less than one of a thousand, one of 512 more, but less than two.
        pairsDue(10, 1, 10);
        pairsDue(10, 2, 9);
    }

    /** "the least n up to 40"; NONE. */
    private static void pairsUpToForty() {
        pairsDue(7, 5, 39);
        pairsDue(7, 4, NONE);
        pairsDue(7, 1, NONE);
        pairsDue(6, 94, 37);
        // 26 of 42 would do.
        pairsDue(6, 93, NONE);
        pairsDue(6, 1, NONE);
        pairsDue(8, 1, 24);
    }

    /** "(n times the share by ten, cut up)": 7.2 is 8, 7 stays 7, 10.2 is 11. */
    private static void pairsCutUp() {
        // 8 of 12 are 794 of 4096 (193.8 of a thousand); 6 of 10 would be 377, and 7 of 10 172: that is not asked.
        pairsDue(6, 194, 12);
        pairsDue(6, 193, 17);
        pairsDue(6, 172, 17);
        pairsDue(6, 200, 12);
        // 5 of 6 (4.2) are 7 of 64: 109.4; 7 of 9 (6.3) are 46 of 512: 89.8; 9 of 12 (8.4) are 299 of 4096: 73.0.
        pairsDue(7, 110, 6);
        pairsDue(7, 109, 9);
        pairsDue(7, 90, 9);
        pairsDue(7, 89, 12);
        pairsDue(7, 73, 12);
        pairsDue(7, 72, 13);
    }

    /** "a share (6 to 10 of ten) and a DOUBT (1 to 200 of a thousand)". */
    private static void pairsOfAllShares() {
        int[] atMost = {12, 3, 3, 3, 3};
        int[] atLeast = {NONE, NONE, 24, 14, 10};
        for (int share = 6; share <= 10; share++) {
            pairsDue(share, 200, atMost[share - 6]);
            pairsDue(share, 199, atMost[share - 6]);
            pairsDue(share, 1, atLeast[share - 6]);
            pairsDue(share, 201, OUTSIDE);
            pairsDue(share, 0, OUTSIDE);
        }
        pairsDue(5, 100, OUTSIDE);
        pairsDue(11, 100, OUTSIDE);
    }
}
