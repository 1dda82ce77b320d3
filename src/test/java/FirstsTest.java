import java.math.BigInteger;

/** Promises 8 to 14: first, odds, gain, could, any, chance, pairs. */
public final class FirstsTest {
    private static final Due DUE = new Due();
    private static final int[] FAR = {Integer.MIN_VALUE, -1, 1000, Integer.MAX_VALUE};
    private static final int GONE_OUTSIDE = FrozeFirst.GONE + FrozeFirst.OUTSIDE;
    private static final long LOST_OUTSIDE = FrozeFirst.LOST + FrozeFirst.OUTSIDE;

    public static void main(String[] args) {
        first();
        firstByTimes();
        odds();
        oddsOfWholeRows();
        gain();
        could();
        couldNotBeAtWork();
        any();
        anyOnlyAboveTheColdOne();
        chance();
        pairs();
        refusals();
        DUE.end();
    }

    /** SIDE 50, no cause: a pail at 0 degrees loses 50, 47, 45: needles at 0, 1 in rounds 1, 3. */
    private static FrozeFirst plainPails(int hot, int cold) {
        FrozeFirst x = new FrozeFirst();
        x.set(1, 50);
        x.set(2, 0);
        x.set(3, 0);
        x.set(10, 0);
        x.pail(0, 0, hot);
        x.pail(1, 0, cold);
        return x;
    }

    private static void first() {
        FrozeFirst x = plainPails(0, 0);
        DUE.due("first(0, 0, 1)", x.first(0, 0, 1), 0);
        DUE.due("first(0, 1, 0)", x.first(0, 1, 0), 1);
        DUE.due("first(0, 1, 1)", x.first(0, 1, 1), 2);
        DUE.due("first(1, 1, 0)", x.first(1, 1, 0), 2);
        x.set(0, 1);
        DUE.due("both never", x.first(0, 9, 8), 2);
        DUE.due("one never", x.first(0, 9, 0), 1);
        DUE.due("the other never", x.first(0, 0, 9), 0);
    }

    private static void firstByTimes() {
        FrozeFirst x = new FrozeFirst();
        for (int meaning = 0; meaning < 3; meaning++) {
            for (int hot = 0; hot < 10; hot++) {
                for (int cold = 0; cold < 10; cold += 3) {
                    int less = Integer.compare(x.time(0, hot, meaning), x.time(1, cold, meaning));
                    int want = less < 0 ? 0 : less > 0 ? 1 : 2;
                    DUE.due("first(" + meaning + ", " + hot + ", " + cold + ")", x.first(meaning, hot, cold), want);
                }
            }
        }
    }

    private static void fraction(FrozeFirst x, int meaning, int first, long upper, long lower) {
        String call = "odds(" + meaning + ", " + first;
        DUE.due(call + ", 0)", x.odds(meaning, first, 0), upper);
        DUE.due(call + ", 1)", x.odds(meaning, first, 1), lower);
    }

    private static void odds() {
        FrozeFirst x = plainPails(0, 0);
        // The hot one at 0, 1 degrees: 3, 1 of 4; the cold one: 2, 4 of 6.
        x.row(0, 3100000000L);
        x.row(1, 2400000000L);
        fraction(x, 0, 0, 1, 2);
        fraction(x, 0, 1, 1, 12);
        fraction(x, 0, 2, 5, 12);
        // By the glass both are first in round 1, whatever the needles.
        fraction(x, 1, 0, 0, 1);
        fraction(x, 1, 1, 0, 1);
        fraction(x, 1, 2, 1, 1);
    }

    private static void oddsOfWholeRows() {
        FrozeFirst x = plainPails(0, 0);
        x.set(0, 40);
        // 200 a round at first: the ten needles are in rounds 1, 1, 1, 2, 3, ..: told by time().
        x.row(0, 1000000009L);
        x.row(1, 9999999999L);
        long[] want = new long[3];
        for (int hot = 0; hot < 10; hot += 9) {
            for (int cold = 0; cold < 10; cold++) {
                int h = x.time(0, hot, 0);
                int c = x.time(1, cold, 0);
                want[h < c ? 0 : h > c ? 1 : 2] += (hot == 0 ? 1 : 9) * 9;
            }
        }
        for (int first = 0; first < 3; first++) {
            long divisor = BigInteger.valueOf(want[first]).gcd(BigInteger.valueOf(900)).longValueExact();
            fraction(x, 0, first, want[first] / divisor, 900 / divisor);
        }
        // The last digit is of 9 degrees, the first of 0.
        x.row(0, 1L);
        x.row(1, 1000000000L);
        fraction(x, 0, 1, 1, 1);
        x.row(0, 5000000000L);
        x.row(1, 7L);
        fraction(x, 0, 0, 1, 1);
    }

    private static void gain() {
        FrozeFirst x = plainPails(1, 0);
        // 55 (45 left), 52: the hot one reads in round 2, the cold one in round 1.
        DUE.due("gain(0, 0, 0)", x.gain(0, 0, 0), -1);
        x.pail(0, 0, 0);
        x.pail(1, 0, 1);
        DUE.due("gain(0, 0, 0), the other way", x.gain(0, 0, 0), 1);
        FrozeFirst y = new FrozeFirst();
        for (int causes = 0; causes < 8; causes++) {
            y.set(10, causes);
            for (int meaning = 0; meaning < 3; meaning++) {
                int want = y.time(1, 3, meaning) - y.time(0, 3, meaning);
                y.set(10, 7 - causes);
                DUE.due("gain(" + meaning + ", 3, " + causes + ")", y.gain(meaning, 3, causes), want);
                DUE.due("causes stay", y.told(20), 7 - causes);
                y.set(10, causes);
            }
        }
    }

    private static void could() {
        FrozeFirst x = new FrozeFirst();
        x.set(5, 30);
        for (int meaning = 0; meaning < 3; meaning++) {
            for (int cause = 0; cause < 3; cause++) {
                int bit = 1 << cause;
                int least = Integer.MAX_VALUE;
                int most = Integer.MIN_VALUE;
                for (int others = 0; others < 8; others++) {
                    if ((others & bit) != 0) continue;
                    int adds = x.gain(meaning, 5, others + bit) - x.gain(meaning, 5, others);
                    least = Math.min(least, adds);
                    most = Math.max(most, adds);
                }
                String call = "could(" + meaning + ", 5, " + cause + ", ";
                DUE.due(call + "0)", x.could(meaning, 5, cause, 0), x.gain(meaning, 5, bit) - x.gain(meaning, 5, 0));
                DUE.due(call + "1)", x.could(meaning, 5, cause, 1), least);
                DUE.due(call + "2)", x.could(meaning, 5, cause, 2), most);
            }
        }
        DUE.due("causes stay", x.told(20), 7);
    }

    private static void couldNotBeAtWork() {
        FrozeFirst x = new FrozeFirst();
        x.set(5, 0);
        x.set(7, 0);
        for (int what = 0; what < 3; what++) {
            DUE.due("steam that takes nothing does nothing", x.could(2, 4, 0, what), 0);
            DUE.due("rime that is not there does nothing", x.could(2, 4, 1, what), 0);
        }
    }

    private static void any() {
        FrozeFirst x = new FrozeFirst();
        DUE.due("any(0, 4)", x.any(0, 4), 51);
        DUE.due("START stays", x.told(2), 90);
        x.pail(0, 0, 3);
        DUE.due("any(0, 4): what is told of its START does not matter", x.any(0, 4), 51);
        x.pail(0, 0, 51);
        DUE.due("first at 51", x.first(0, 4, 4), 0);
        for (int start = 21; start < 51; start++) {
            x.pail(0, 0, start);
            DUE.holds("not first at " + start, x.first(0, 4, 4) != 0);
        }
        DUE.due("any(2, 4)", x.any(2, 4), FrozeFirst.NONE);
        x.set(10, 0);
        DUE.due("any(0, 4) with no cause at work", x.any(0, 4), FrozeFirst.NONE);
    }

    private static void anyOnlyAboveTheColdOne() {
        FrozeFirst x = plainPails(50, 50);
        // With half as much water it is first at any START that is little above.
        x.pail(0, 1, 50);
        DUE.due("any(0, 4) of a smaller one", x.any(0, 4), 51);
        x.pail(1, 0, 99);
        DUE.due("up to 100", x.any(0, 4), 100);
        x.pail(1, 0, 100);
        DUE.due("none is above 100", x.any(0, 4), FrozeFirst.NONE);
        FrozeFirst y = plainPails(0, 0);
        // In round 1 both: alike is not first, and nothing comes ahead of round 1.
        y.pail(0, 1, 10);
        DUE.due("both in round 1", y.any(0, 0), FrozeFirst.NONE);
        FrozeFirst z = plainPails(90, 0);
        z.pail(0, 1, 10);
        // From 1 degree a tenth of the water loses 550 in round 1; the cold one comes to 1 degree in round 3.
        DUE.due("the cold one's round", z.time(1, 1, 0), 3);
        DUE.due("a whole round ahead", z.any(0, 1), 1);
        z.pail(0, 1, 50);
        // Half of the water: 110 (-10), 98 (-108): round 2, just one round ahead.
        DUE.due("just one round ahead", z.any(0, 1), 1);
        z.set(0, 1);
        DUE.due("both never", z.any(0, 9), FrozeFirst.NONE);
    }

    private static void chance() {
        for (int n = 1; n <= 40; n++) {
            FrozeFirst x = new FrozeFirst();
            BigInteger ways = BigInteger.ZERO;
            BigInteger all = BigInteger.TWO.pow(n);
            for (int k = n; k >= 0; k--) {
                ways = ways.add(choose(n, k));
                BigInteger divisor = ways.gcd(all);
                String call = "chance(" + k + ", " + n;
                DUE.due(call + ", 0)", x.chance(k, n, 0), ways.divide(divisor).longValueExact());
                DUE.due(call + ", 1)", x.chance(k, n, 1), all.divide(divisor).longValueExact());
            }
        }
    }

    private static BigInteger choose(int n, int k) {
        BigInteger ways = BigInteger.ONE;
        for (int i = 1; i <= k; i++) {
            ways = ways.multiply(BigInteger.valueOf(n - k + i)).divide(BigInteger.valueOf(i));
        }
        return ways;
    }

    private static void pairs() {
        FrozeFirst x = new FrozeFirst();
        // All of n: one of 2^n; 125 of a thousand is just an eighth, 124 is less.
        DUE.due("pairs(10, 125)", x.pairs(10, 125), 3);
        DUE.due("pairs(10, 124)", x.pairs(10, 124), 4);
        DUE.due("pairs(10, 200)", x.pairs(10, 200), 3);
        DUE.due("pairs(10, 1)", x.pairs(10, 1), 10);
        for (int share = 6; share <= 10; share++) {
            for (int doubt = 1; doubt <= 200; doubt++) {
                DUE.due("pairs(" + share + ", " + doubt + ")", new FrozeFirst().pairs(share, doubt), pairsDue(share, doubt));
            }
        }
    }

    private static int pairsDue(int share, int doubt) {
        FrozeFirst x = new FrozeFirst();
        for (int n = 1; n <= 40; n++) {
            int k = n * share / 10 + (n * share % 10 == 0 ? 0 : 1);
            BigInteger upper = BigInteger.valueOf(x.chance(k, n, 0)).multiply(BigInteger.valueOf(1000));
            BigInteger lower = BigInteger.valueOf(x.chance(k, n, 1)).multiply(BigInteger.valueOf(doubt));
            if (upper.compareTo(lower) <= 0) return n;
        }
        return FrozeFirst.NONE;
    }

    private static void refusals() {
        FrozeFirst x = new FrozeFirst();
        for (int far : FAR) {
            DUE.due("first by no meaning", x.first(far, 0, 0), FrozeFirst.OUTSIDE);
            DUE.due("first of no hot degree", x.first(0, far, 0), FrozeFirst.OUTSIDE);
            DUE.due("first of no cold degree", x.first(0, 0, far), FrozeFirst.OUTSIDE);
            DUE.due("odds by no meaning", x.odds(far, 0, 0), LOST_OUTSIDE);
            DUE.due("odds of no first", x.odds(0, far, 0), LOST_OUTSIDE);
            DUE.due("odds of no part", x.odds(0, 0, far), LOST_OUTSIDE);
            DUE.due("gain by no meaning", x.gain(far, 0, 0), GONE_OUTSIDE);
            DUE.due("gain of no degree", x.gain(0, far, 0), GONE_OUTSIDE);
            DUE.due("gain by no causes", x.gain(0, 0, far), GONE_OUTSIDE);
            DUE.due("could of no cause", x.could(far, far, far, far), FrozeFirst.GONE + FrozeFirst.UNKNOWN);
            DUE.due("could by no meaning", x.could(far, 0, 0, 0), GONE_OUTSIDE);
            DUE.due("could of no degree", x.could(0, far, 0, 0), GONE_OUTSIDE);
            DUE.due("could of nothing", x.could(0, 0, 0, far), GONE_OUTSIDE);
            DUE.due("any by no meaning", x.any(far, 0), FrozeFirst.OUTSIDE);
            DUE.due("any of no degree", x.any(0, far), FrozeFirst.OUTSIDE);
            DUE.due("chance of no k", x.chance(far, 40, 0), LOST_OUTSIDE);
            DUE.due("chance of no n", x.chance(0, far, 0), LOST_OUTSIDE);
            DUE.due("chance of no part", x.chance(0, 1, far), LOST_OUTSIDE);
            DUE.due("pairs of no share", x.pairs(far, 1), FrozeFirst.OUTSIDE);
            DUE.due("pairs of no doubt", x.pairs(6, far), FrozeFirst.OUTSIDE);
        }
        DUE.due("first(3, 0, 0)", x.first(3, 0, 0), FrozeFirst.OUTSIDE);
        DUE.due("first(0, 10, 0)", x.first(0, 10, 0), FrozeFirst.OUTSIDE);
        DUE.due("first(0, 0, 10)", x.first(0, 0, 10), FrozeFirst.OUTSIDE);
        DUE.due("odds(3, 0, 0)", x.odds(3, 0, 0), LOST_OUTSIDE);
        DUE.due("odds(0, 3, 0)", x.odds(0, 3, 0), LOST_OUTSIDE);
        DUE.due("odds(0, 0, 2)", x.odds(0, 0, 2), LOST_OUTSIDE);
        DUE.due("gain(3, 0, 0)", x.gain(3, 0, 0), GONE_OUTSIDE);
        DUE.due("gain(0, 10, 0)", x.gain(0, 10, 0), GONE_OUTSIDE);
        DUE.due("gain(0, 0, 8)", x.gain(0, 0, 8), GONE_OUTSIDE);
        DUE.due("could(0, 0, 3, 3)", x.could(0, 0, 3, 3), FrozeFirst.GONE + FrozeFirst.UNKNOWN);
        DUE.due("could(0, 0, 2, 3)", x.could(0, 0, 2, 3), GONE_OUTSIDE);
        DUE.due("could(3, 0, 2, 0)", x.could(3, 0, 2, 0), GONE_OUTSIDE);
        DUE.due("could(0, 10, 2, 0)", x.could(0, 10, 2, 0), GONE_OUTSIDE);
        DUE.due("any(3, 0)", x.any(3, 0), FrozeFirst.OUTSIDE);
        DUE.due("any(0, 10)", x.any(0, 10), FrozeFirst.OUTSIDE);
        DUE.due("chance(0, 0, 0)", x.chance(0, 0, 0), LOST_OUTSIDE);
        DUE.due("chance(0, 41, 0)", x.chance(0, 41, 0), LOST_OUTSIDE);
        DUE.due("chance(6, 5, 0)", x.chance(6, 5, 0), LOST_OUTSIDE);
        DUE.due("chance(5, 5, 2)", x.chance(5, 5, 2), LOST_OUTSIDE);
        DUE.due("pairs(5, 1)", x.pairs(5, 1), FrozeFirst.OUTSIDE);
        DUE.due("pairs(11, 1)", x.pairs(11, 1), FrozeFirst.OUTSIDE);
        DUE.due("pairs(6, 0)", x.pairs(6, 0), FrozeFirst.OUTSIDE);
        DUE.due("pairs(6, 201)", x.pairs(6, 201), FrozeFirst.OUTSIDE);
    }
}
