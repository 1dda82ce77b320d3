/**
 * The bounds of each number of each call: at them, a step inside, a step outside and far outside, the numbers of a call
 * in all ways together. So it is seen, too, which refusal is ahead ("the first of these that fits").
 */
public final class BoundsTest {
    private static final Due DUE = new Due();

    public static void main(String[] args) {
        for (Calls.Call call : Calls.all()) {
            eachWay(call, new int[call.bounds().size()], 0);
        }
        bounds();
        rowsBounds();
        sharesAndDoubts();
        DUE.end();
    }

    private static void eachWay(Calls.Call call, int[] v, int place) {
        if (place == v.length) {
            oneWay(call, v);
            return;
        }
        for (int edge : call.bounds().get(place).edges()) {
            v[place] = edge;
            eachWay(call, v, place + 1);
        }
    }

    private static void oneWay(Calls.Call call, int[] v) {
        long refusal = call.refusal(v);
        long want = refusal != 0 ? refusal : call.want().of(Calls.settledPlain(), v);
        DUE.due(call.told(v), call.ask().of(Calls.settled(), v), want);
    }

    /** "START (0 to 100), MASS (10 to 100)", and what set() sets: what stands behind a call at its bound. */
    private static void bounds() {
        int[] least = {1, 0, 0, 0, 0, 0, 0, 0, 1, 0, 0};
        int[] most = {40, 50, 50, 50, 50, 50, 50, 99, 80, 3, 7};
        FrozeFirst x = new FrozeFirst();
        for (int which = 0; which <= 10; which++) {
            stands(x, which, least[which], least[which] - 1, most[which] + 1);
            stands(x, which, least[which] + 1, Integer.MIN_VALUE, Integer.MAX_VALUE);
            stands(x, which, most[which] - 1, least[which] - 1, most[which] + 1);
            stands(x, which, most[which], least[which] - 1, most[which] + 1);
        }
        for (int pail = 0; pail < 2; pail++) {
            for (int v : new int[] {0, 1, 99, 100}) {
                x.pail(pail, 0, v);
                x.pail(pail, 0, -1);
                x.pail(pail, 0, 101);
                DUE.due("START " + v + " of " + pail, x.told(2 + pail), v);
            }
            for (int v : new int[] {10, 11, 99, 100}) {
                x.pail(pail, 1, v);
                x.pail(pail, 1, 9);
                x.pail(pail, 1, 101);
                DUE.due("MASS " + v + " of " + pail, x.told(4 + pail), v);
            }
        }
    }

    private static void stands(FrozeFirst x, int which, int v, int below, int above) {
        x.set(which, v);
        DUE.due("set(" + which + ", " + below + ")", x.set(which, below), FrozeFirst.OUTSIDE);
        DUE.due("set(" + which + ", " + above + ")", x.set(which, above), FrozeFirst.OUTSIDE);
        DUE.due("told(10 + " + which + ")", x.told(10 + which), v);
    }

    /** "a ROW of ten digits (0000000001 to 9999999999)". */
    private static void rowsBounds() {
        for (int pail = 0; pail < 2; pail++) {
            FrozeFirst x = new FrozeFirst();
            long was = 123210000L;
            for (long row : new long[] {1, 2, 9999999998L, 9999999999L}) {
                DUE.due("row(" + pail + ", " + row + ")", x.row(pail, row), was);
                was = row;
                long[] outside = {0, -1, 10000000000L, 10000000001L, Long.MIN_VALUE, Long.MAX_VALUE,
                    // Right ones, if they were cut to 32 bits.
                    (1L << 40) + 5, (1L << 32) * 100 + 1};
                for (long wrong : outside) {
                    DUE.due("row(" + pail + ", " + wrong + ")", x.row(pail, wrong), FrozeFirst.OUTSIDE);
                    DUE.due("row(2, " + wrong + ")", x.row(2, wrong), FrozeFirst.UNKNOWN);
                    DUE.due("row(-1, " + wrong + ")", x.row(-1, wrong), FrozeFirst.UNKNOWN);
                }
            }
            DUE.due("the other one's ROW", x.row(1 - pail, 7), 123210000L);
        }
    }

    /** "a share (6 to 10 of ten) and a DOUBT (1 to 200 of a thousand)": every share at every doubt. */
    private static void sharesAndDoubts() {
        Plain plain = new Plain();
        for (int share = 5; share <= 11; share++) {
            FrozeFirst x = new FrozeFirst();
            for (int doubt = -1; doubt <= 202; doubt++) {
                boolean right = share >= 6 && share <= 10 && doubt >= 1 && doubt <= 200;
                long want = right ? plain.pairs(share, doubt) : FrozeFirst.OUTSIDE;
                DUE.due("pairs(" + share + ", " + doubt + ")", x.pairs(share, doubt), want);
            }
        }
    }
}
