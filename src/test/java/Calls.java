import java.util.ArrayList;
import java.util.LinkedHashSet;
import java.util.List;
import java.util.Set;

/** Every call of the face that takes numbers, with the bounds that the document tells of each of them. */
final class Calls {
    /** The call on the object, its numbers in order. */
    interface Ask {
        long of(FrozeFirst x, int[] v);
    }

    /** What is due when no number is refused, by the second reckoning. */
    interface Want {
        long of(Plain plain, int[] v);
    }

    /** From where to where a number may be, and what refuses it elsewhere. */
    record Bound(int least, int most, int refusal) {
        /** Both bounds, a step inside, a step outside, and as far outside as a number can be. */
        int[] edges() {
            Set<Integer> edges = new LinkedHashSet<>();
            for (int v : new int[] {least - 1, least, least + 1, most - 1, most, most + 1}) {
                edges.add(v);
            }
            edges.add(Integer.MIN_VALUE);
            edges.add(Integer.MAX_VALUE);
            return edges.stream().mapToInt(Integer::intValue).toArray();
        }

        boolean refuses(int v) {
            return v < least || v > most;
        }
    }

    /** A refusal is added to what numbers of this call are refused with: GONE, LOST or 0. */
    record Call(String name, long added, Ask ask, Want want, List<Bound> bounds) {
        /** UNKNOWN is ahead of OUTSIDE, whatever the order of the numbers; 0: not refused. */
        long refusal(int[] v) {
            int first = 0;
            for (int i = 0; i < v.length; i++) {
                int one = bounds.get(i).refuses(v[i]) ? bounds.get(i).refusal() : 0;
                if (one != 0 && (first == 0 || one == FrozeFirst.UNKNOWN)) first = one;
            }
            return first == 0 ? 0 : added + first;
        }

        String told(int[] v) {
            StringBuilder text = new StringBuilder(name);
            for (int one : v) text.append(' ').append(one);
            return text.toString();
        }
    }

    private static final int[] LEAST = {1, 0, 0, 0, 0, 0, 0, 0, 1, 0, 0};
    private static final int[] MOST = {40, 50, 50, 50, 50, 50, 50, 99, 80, 3, 7};
    private static final Bound PAIL = unknown(0, 1);
    private static final Bound DEGREE = outside(0, 9);
    private static final Bound MEANING = outside(0, 2);
    private static final Bound FIRST = outside(0, 2);
    private static final Bound PART = outside(0, 1);

    /** What settled() says and makes TRIES of. */
    static final String TEXT = "->;s<;r=";

    private Calls() {
    }

    private static Bound unknown(int least, int most) {
        return new Bound(least, most, FrozeFirst.UNKNOWN);
    }

    private static Bound outside(int least, int most) {
        return new Bound(least, most, FrozeFirst.OUTSIDE);
    }

    private static void add(List<Call> all, String name, long added, Ask ask, Want want, Bound... bounds) {
        all.add(new Call(name, added, ask, want, List.of(bounds)));
    }

    /** An object with three TRIES, one sign and both images, so that each call can be answered. */
    static FrozeFirst settled() {
        FrozeFirst x = new FrozeFirst();
        for (char sign : TEXT.toCharArray()) x.say(sign);
        x.tries();
        x.say('s');
        x.image(0);
        x.image(1);
        return x;
    }

    /** The second reckoning of settled(). */
    static Plain settledPlain() {
        Plain plain = new Plain();
        plain.signs = TEXT;
        plain.tries();
        plain.signs = "s";
        return plain;
    }

    static List<Call> all() {
        List<Call> all = new ArrayList<>();
        addPails(all);
        addRuns(all);
        addFirsts(all);
        addTries(all);
        return all;
    }

    private static int swap(int[] values, int place, int v) {
        int was = values[place];
        values[place] = v;
        return was;
    }

    private static void addPails(List<Call> all) {
        add(all, "pail(p, what, 50)", 0, (x, v) -> x.pail(v[0], v[1], 50),
            (p, v) -> swap(v[1] == 0 ? p.start : p.mass, v[0], 50), PAIL, outside(0, 1));
        add(all, "pail(p, 0, START)", 0, (x, v) -> x.pail(v[0], 0, v[1]), (p, v) -> swap(p.start, v[0], v[1]),
            PAIL, outside(0, 100));
        add(all, "pail(p, 1, MASS)", 0, (x, v) -> x.pail(v[0], 1, v[1]), (p, v) -> swap(p.mass, v[0], v[1]),
            PAIL, outside(10, 100));
        add(all, "row(p, 5)", 0, (x, v) -> x.row(v[0], 5), (p, v) -> Long.parseLong(p.row[v[0]]), PAIL);
        add(all, "set(which, 1)", 0, (x, v) -> x.set(v[0], 1), (p, v) -> swap(p.alike, v[0], 1), outside(0, 10));
        for (int which = 0; which <= 10; which++) {
            int one = which;
            add(all, "set(" + one + ", v)", 0, (x, v) -> x.set(one, v[0]), (p, v) -> swap(p.alike, one, v[0]),
                outside(LEAST[one], MOST[one]));
        }
    }

    private static void addRuns(List<Call> all) {
        add(all, "time", 0, (x, v) -> x.time(v[0], v[1], v[2]), (p, v) -> p.time(v[0], v[1], v[2]),
            PAIL, DEGREE, MEANING);
        add(all, "at", FrozeFirst.GONE, (x, v) -> x.at(v[0], v[1], v[2], v[3]),
            (p, v) -> p.at(v[0], v[1], v[2], v[3]), PAIL, DEGREE, outside(0, 600), outside(0, 6));
        add(all, "glass", 0, (x, v) -> x.glass(v[0], v[1], v[2]), (p, v) -> p.glass(v[0], v[1], v[2]),
            PAIL, DEGREE, unknown(0, 3));
    }

    private static void addFirsts(List<Call> all) {
        add(all, "first", 0, (x, v) -> x.first(v[0], v[1], v[2]), (p, v) -> p.first(v[0], v[1], v[2]),
            MEANING, DEGREE, DEGREE);
        add(all, "odds", FrozeFirst.LOST, (x, v) -> x.odds(v[0], v[1], v[2]), (p, v) -> p.odds(v[0], v[1], v[2]),
            MEANING, FIRST, PART);
        add(all, "gain", FrozeFirst.GONE, (x, v) -> x.gain(v[0], v[1], v[2]), (p, v) -> p.gain(v[0], v[1], v[2]),
            MEANING, DEGREE, outside(0, 7));
        add(all, "could", FrozeFirst.GONE, (x, v) -> x.could(v[0], v[1], v[2], v[3]),
            (p, v) -> p.could(v[0], v[1], v[2], v[3]), MEANING, DEGREE, unknown(0, 2), outside(0, 2));
        add(all, "any", 0, (x, v) -> x.any(v[0], v[1]), (p, v) -> p.any(v[0], v[1]), MEANING, DEGREE);
        add(all, "chance(0, n, part)", FrozeFirst.LOST, (x, v) -> x.chance(0, v[0], v[1]),
            (p, v) -> p.chance(0, v[0], v[1]), outside(1, 40), PART);
        for (int n = 1; n <= 40; n++) {
            int one = n;
            add(all, "chance(k, " + one + ", part)", FrozeFirst.LOST, (x, v) -> x.chance(v[0], one, v[1]),
                (p, v) -> p.chance(v[0], one, v[1]), outside(0, one), PART);
        }
        add(all, "pairs", 0, (x, v) -> x.pairs(v[0], v[1]), (p, v) -> p.pairs(v[0], v[1]),
            outside(6, 10), outside(1, 200));
    }

    private static void addTries(List<Call> all) {
        add(all, "say", 0, (x, v) -> x.say(v[0]), (p, v) -> p.signs.length() + 1, outside(33, 126));
        add(all, "tried", 0, (x, v) -> x.tried(v[0], v[1]), (p, v) -> p.tried(v[0], v[1]),
            unknown(0, 2), outside(0, 1));
        add(all, "said", 0, (x, v) -> x.said(v[0], v[1]), (p, v) -> p.said(v[0], v[1]),
            unknown(0, 3), outside(0, 1));
        add(all, "draw", 0, (x, v) -> x.draw(v[0], v[1], v[2], v[3]), (p, v) -> p.draw(v[0], v[1], v[2], v[3]),
            outside(0, 9999), outside(1, 300), MEANING, FIRST);
        add(all, "image", 0, (x, v) -> x.image(v[0]), (p, v) -> 1, outside(0, 1));
        add(all, "restore", 0, (x, v) -> x.restore(v[0]), (p, v) -> 1, outside(0, 1));
        add(all, "told", 0, (x, v) -> x.told(v[0]), (p, v) -> p.told(v[0]), outside(0, 5));
        add(all, "told", 0, (x, v) -> x.told(v[0]), (p, v) -> p.told(v[0]), outside(10, 20));
    }
}
