import java.math.BigInteger;
import java.util.ArrayList;
import java.util.HashSet;
import java.util.List;
import java.util.Set;
import java.util.regex.Pattern;

/**
 * The document reckoned a second time, as plainly as the Java library lets it be: whole runs kept as lists
 * of rounds, texts read by patterns, lots counted by big numbers. Arguments are taken to be right ones.
 */
final class Plain {
    final int[] start = {90, 20};
    final int[] mass = {100, 100};
    final String[] row = {"0123210000", "0123210000"};
    final int[] alike = {10, 4, 8, 12, 2, 10, 8, 40, 20, 1, 7};
    String signs = "";
    List<String> tries = new ArrayList<>();

    /** One round's end. */
    private record Shown(long[] cells, long left, long rime, long frost) {
    }

    /** A whole run: the ends of its rounds from round 0 on, and the rounds of needle and last drop. */
    private record Whole(List<Shown> rounds, int needle, int last) {
        int reads(int cell) {
            for (int i = 1; i < rounds.size(); i++) {
                if (rounds.get(i).cells[cell] <= 0) return i;
            }
            return 601;
        }
    }

    private Whole whole(int pail, int degrees, int b, int causes) {
        List<Shown> rounds = new ArrayList<>();
        long[] first = new long[4];
        java.util.Arrays.fill(first, degrees * 100L);
        rounds.add(new Shown(first, mass[pail] * 1000L, alike[7], 0));
        int needle = 601;
        int last = 601;
        for (int round = 1; round <= 600 && last == 601; round++) {
            Shown was = rounds.get(round - 1);
            Shown cooled = cooled(was, causes);
            long[] cells = cooled.cells.clone();
            long frost = was.frost;
            if (needle == 601) {
                long coldest = Math.min(Math.min(cells[0], cells[1]), Math.min(cells[2], cells[3]));
                if (coldest <= -100L * b) {
                    needle = round;
                    for (int i = 0; i < 4; i++) cells[i] = Math.max(0, cells[i]);
                }
            } else {
                for (int i = 0; i < 4; i++) {
                    frost += Math.max(0, -cells[i]);
                    cells[i] = Math.max(0, cells[i]);
                }
                if (frost >= 400L * alike[8]) last = round;
            }
            rounds.add(new Shown(cells, cooled.left, cooled.rime, frost));
        }
        return new Whole(rounds, needle, last);
    }

    private Shown cooled(Shown was, int causes) {
        boolean steam = causes % 2 == 1;
        boolean rime = causes / 2 % 2 == 1;
        boolean turning = causes / 4 == 1;
        long under = rime && was.rime > 0 ? alike[4] : alike[3];
        long[] rates = {alike[1] + alike[2], alike[1], alike[1], alike[1] + under};
        long[] cells = new long[4];
        for (int i = 0; i < 4; i++) {
            long loss = (was.cells[i] + 100L * alike[0]) * rates[i] / 1000;
            cells[i] = was.cells[i] - loss * 100000 / was.left;
        }
        long left = was.left;
        if (steam && was.cells[0] > 0) left = Math.max(10000, left - was.cells[0] * alike[5] / 1000);
        long rimeLeft = was.rime;
        if (rime && was.rime > 0 && was.cells[3] > 0) rimeLeft = Math.max(0, rimeLeft - was.cells[3] * alike[6] / 10000);
        for (int i = 1; i < 4 && turning; i++) {
            long upper = cells[i - 1];
            long lower = cells[i];
            if (Math.abs(lower - 400) > Math.abs(upper - 400)) {
                cells[i - 1] = (upper + lower) >> 1;
                cells[i] = upper + lower - cells[i - 1];
            }
        }
        return new Shown(cells, left, rimeLeft, was.frost);
    }

    private int timeOf(Whole whole, int meaning) {
        return meaning == 0 ? whole.needle : meaning == 1 ? whole.reads(alike[9]) : whole.last;
    }

    int time(int pail, int b, int meaning) {
        return timeOf(whole(pail, start[pail], b, alike[10]), meaning);
    }

    int at(int pail, int b, int round, int what) {
        List<Shown> rounds = whole(pail, start[pail], b, alike[10]).rounds;
        Shown shown = rounds.get(Math.min(round, rounds.size() - 1));
        return (int) (what < 4 ? shown.cells[what] : what == 4 ? shown.left : what == 5 ? shown.rime : shown.frost);
    }

    int glass(int pail, int b, int cell) {
        return whole(pail, start[pail], b, alike[10]).reads(cell);
    }

    int first(int meaning, int hot, int cold) {
        int h = time(0, hot, meaning);
        int c = time(1, cold, meaning);
        return h == c ? 2 : h < c ? 0 : 1;
    }

    private int[][] firsts(int meaning) {
        int[][] firsts = new int[10][10];
        int[] cold = new int[10];
        for (int b = 0; b < 10; b++) cold[b] = time(1, b, meaning);
        for (int b = 0; b < 10; b++) {
            int hot = time(0, b, meaning);
            for (int c = 0; c < 10; c++) firsts[b][c] = hot == cold[c] ? 2 : hot < cold[c] ? 0 : 1;
        }
        return firsts;
    }

    /** All numbers of a pail, in order: each degree as often as its digit says. */
    private String numbers(int pail) {
        StringBuilder numbers = new StringBuilder();
        for (int b = 0; b < 10; b++) numbers.append(Integer.toString(b).repeat(row[pail].charAt(b) - '0'));
        return numbers.toString();
    }

    long odds(int meaning, int first, int part) {
        int[][] firsts = firsts(meaning);
        long many = 0;
        for (char hot : numbers(0).toCharArray()) {
            for (char cold : numbers(1).toCharArray()) {
                if (firsts[hot - '0'][cold - '0'] == first) many++;
            }
        }
        return lowest(BigInteger.valueOf(many), BigInteger.valueOf((long) numbers(0).length() * numbers(1).length()), part);
    }

    private static long lowest(BigInteger upper, BigInteger lower, int part) {
        return (part == 0 ? upper : lower).divide(upper.gcd(lower)).longValueExact();
    }

    int gain(int meaning, int b, int causes) {
        return timeOf(whole(1, start[1], b, causes), meaning) - timeOf(whole(0, start[0], b, causes), meaning);
    }

    int could(int meaning, int b, int cause, int what) {
        int bit = new int[] {1, 2, 4}[cause];
        List<Integer> adds = new ArrayList<>();
        for (int causes = 0; causes < 8; causes++) {
            if (causes / bit % 2 == 0) adds.add(gain(meaning, b, causes + bit) - gain(meaning, b, causes));
        }
        return what == 0 ? adds.get(0) : what == 1 ? adds.stream().min(Integer::compare).get() : adds.stream().max(Integer::compare).get();
    }

    int any(int meaning, int b) {
        int cold = time(1, b, meaning);
        for (int degrees = start[1] + 1; degrees <= 100; degrees++) {
            if (timeOf(whole(0, degrees, b, alike[10]), meaning) < cold) return degrees;
        }
        return -6;
    }

    private static BigInteger waysOf(int k, int n) {
        BigInteger ways = BigInteger.ZERO;
        for (int i = k; i <= n; i++) {
            BigInteger choose = BigInteger.ONE;
            for (int j = 1; j <= i; j++) choose = choose.multiply(BigInteger.valueOf(n - i + j)).divide(BigInteger.valueOf(j));
            ways = ways.add(choose);
        }
        return ways;
    }

    long chance(int k, int n, int part) {
        return lowest(waysOf(k, n), BigInteger.TWO.pow(n), part);
    }

    int pairs(int share, int doubt) {
        for (int n = 1; n <= 40; n++) {
            int k = n * share / 10;
            if (k * 10 < n * share) k++;
            BigInteger chance = waysOf(k, n).multiply(BigInteger.valueOf(1000));
            if (chance.compareTo(BigInteger.TWO.pow(n).multiply(BigInteger.valueOf(doubt))) <= 0) return n;
        }
        return -6;
    }

    int told(int what) {
        if (what >= 10) return alike[what - 10];
        return new int[] {signs.length(), tries.size(), start[0], start[1], mass[0], mass[1]}[what];
    }

    int draw(int seed, int n, int meaning, int first) {
        int[][] firsts = firsts(meaning);
        String hot = numbers(0);
        String cold = numbers(1);
        long drawn = seed;
        int many = 0;
        for (int i = 0; i < n; i++) {
            drawn = (drawn * 75 + 74) % 65537;
            int h = hot.charAt((int) (drawn % hot.length())) - '0';
            drawn = (drawn * 75 + 74) % 65537;
            int c = cold.charAt((int) (drawn % cold.length())) - '0';
            if (firsts[h][c] == first) many++;
        }
        return many;
    }

    private static final String KEPT = "(-|(?!\\w*(\\w)\\w*\\2)[srtn]+)";
    private static final Pattern WHOLE_TRY = Pattern.compile(KEPT + "[<>=]");
    private static final Pattern PART_TRY = Pattern.compile("|" + KEPT + "[<>=]?");

    /** Whether more signs could make a text of tries of this. */
    private static boolean mayGoOn(String text) {
        String[] parts = text.split(";", -1);
        for (int i = 0; i < parts.length; i++) {
            Pattern pattern = i + 1 < parts.length ? WHOLE_TRY : PART_TRY;
            if (!pattern.matcher(parts[i]).matches()) return false;
        }
        return true;
    }

    int fault() {
        for (int i = 1; i <= signs.length(); i++) {
            if (!mayGoOn(signs.substring(0, i))) return i - 1;
        }
        return signs.matches(".*[<>=]") ? -6 : signs.length();
    }

    int tries() {
        if (fault() != -6) return -5;
        tries = new ArrayList<>(List.of(signs.split(";")));
        signs = "";
        return tries.size();
    }

    private static Set<Character> keptOf(String text) {
        Set<Character> kept = new HashSet<>();
        for (char sign : text.toCharArray()) {
            if ("srtn".indexOf(sign) >= 0) kept.add(sign);
        }
        return kept;
    }

    private static int bits(Set<Character> kept) {
        int bits = 0;
        for (char sign : kept) bits += sign == 's' ? 1 : sign == 'r' ? 2 : sign == 't' ? 4 : 8;
        return bits;
    }

    private static char endOf(String text) {
        return text.charAt(text.length() - 1);
    }

    int tried(int i, int what) {
        return what == 0 ? bits(keptOf(tries.get(i))) : "><=".indexOf(endOf(tries.get(i)));
    }

    int said(int cause, int what) {
        char letter = "srtn".charAt(cause);
        int many = 0;
        for (String with : tries) {
            if (!keptOf(with).contains(letter)) continue;
            Set<Character> others = keptOf(with);
            others.remove(letter);
            for (String without : tries) {
                if (keptOf(without).equals(others) && (endOf(with) == endOf(without)) == (what == 1)) many++;
            }
        }
        return many;
    }

    int ask() {
        int[] pairs = new int[16];
        for (String one : tries) {
            int kept = bits(keptOf(one));
            for (int bit = 1; bit < 16; bit *= 2) pairs[kept / bit % 2 == 0 ? kept + bit : kept - bit]++;
        }
        for (String one : tries) pairs[bits(keptOf(one))] = -1;
        int best = 0;
        for (int kept = 1; kept < 16; kept++) {
            if (pairs[kept] > pairs[best]) best = kept;
        }
        return pairs[best] < 0 ? -6 : best;
    }

    Plain copy() {
        Plain copy = new Plain();
        copy.takeAllButSigns(this);
        return copy;
    }

    void takeAllButSigns(Plain other) {
        System.arraycopy(other.start, 0, start, 0, 2);
        System.arraycopy(other.mass, 0, mass, 0, 2);
        System.arraycopy(other.row, 0, row, 0, 2);
        System.arraycopy(other.alike, 0, alike, 0, 11);
        tries = new ArrayList<>(other.tries);
    }
}
