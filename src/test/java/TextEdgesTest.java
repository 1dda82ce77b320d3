/**
 * The edges of signs, TRIES, draws and images (Terms, 4; promises 15 to 25), a test for each sentence that names one: at
 * the edge, a step on this side and a step on that.
 */
public final class TextEdgesTest {
    private static final Due DUE = new Due();
    private static final int NONE = FrozeFirst.NONE;
    private static final int UNKNOWN = FrozeFirst.UNKNOWN;
    private static final int OUTSIDE = FrozeFirst.OUTSIDE;
    private static final int STATE = FrozeFirst.STATE;
    private static final int FULL = FrozeFirst.FULL;
    private static final int NO = FrozeFirst.NO;

    public static void main(String[] args) {
        noneAtFirst();
        codes();
        upToSixty();
        fullAndWiped();
        wipeHowMany();
        faultOfNoSign();
        faultIfMoreMustCome();
        faultOfEachSignAtEachPlace();
        eachLetterOnce();
        nothingStandsAlone();
        betweenTwo();
        firstFaultCounts();
        faultInTheLastPlace();
        triesAreGoneThen();
        fewestAndMostTries();
        triesAreNumbered();
        bitsOfEachSet();
        saidByItAlone();
        saidOfEnds();
        saidOfMany();
        askOfNone();
        askNotAmongThem();
        askMostPairs();
        askOfSixteen();
        askTheLeast();
        askOfNearlyAll();
        seeds();
        drawnPairs();
        drawsWrap();
        numbersOfARow();
        hotThenCold();
        imagesNotKept();
        imageKeepsAllButSigns();
        imageOfEmptyAndFull();
        imageOfEachThing();
        imageOverImage();
        toldOfAll();
        callsUpTo512();
        DUE.end();
    }

    private static FrozeFirst saying(String text) {
        return sayAll(new FrozeFirst(), text);
    }

    private static FrozeFirst sayAll(FrozeFirst x, String text) {
        for (char sign : text.toCharArray()) x.say(sign);
        return x;
    }

    private static FrozeFirst trying(String text) {
        FrozeFirst x = saying(text);
        DUE.holds(text + " are tries", x.tries() > 0);
        return x;
    }

    /** "none at first", "no TRIES". */
    private static void noneAtFirst() {
        FrozeFirst x = new FrozeFirst();
        DUE.due("signs", x.told(0), 0);
        DUE.due("TRIES", x.told(1), 0);
        DUE.due("tried(0, 0)", x.tried(0, 0), UNKNOWN);
        DUE.due("wipe()", x.wipe(), 0);
        for (int cause = 0; cause < 4; cause++) {
            DUE.due("said otherwise", x.said(cause, 0), 0);
            DUE.due("said alike", x.said(cause, 1), 0);
        }
    }

    /** "codes 33 to 126". */
    private static void codes() {
        int[] signs = {32, 33, 34, 125, 126, 127, 0, -1, 128, 33 + 256, 126 + 65536, Integer.MIN_VALUE, Integer.MAX_VALUE};
        int[] want = {OUTSIDE, 1, 1, 1, 1, OUTSIDE, OUTSIDE, OUTSIDE, OUTSIDE, OUTSIDE, OUTSIDE, OUTSIDE, OUTSIDE};
        for (int i = 0; i < signs.length; i++) {
            FrozeFirst x = new FrozeFirst();
            DUE.due("say(" + signs[i] + ")", x.say(signs[i]), want[i]);
            DUE.due("signs behind it", x.told(0), want[i] == 1 ? 1 : 0);
        }
        int taken = 0;
        for (int sign = 0; sign < 256; sign++) {
            if (new FrozeFirst().say(sign) > 0) taken++;
        }
        DUE.due("how many codes there are", taken, 94);
    }

    /** "up to 60 signs": 59, 60, and no 61. */
    private static void upToSixty() {
        FrozeFirst x = new FrozeFirst();
        for (int i = 1; i <= 60; i++) DUE.due("sign " + i, x.say('s'), i);
        DUE.due("sign 61", x.say('s'), FULL);
        DUE.due("sign 61 again", x.say('>'), FULL);
        DUE.due("signs", x.told(0), 60);
        DUE.due("OUTSIDE is ahead", x.say(32), OUTSIDE);
        DUE.due("OUTSIDE is ahead, above", x.say(127), OUTSIDE);
    }

    private static void fullAndWiped() {
        FrozeFirst x = saying("-=;".repeat(20));
        DUE.due("full", x.say('-'), FULL);
        DUE.due("wipe()", x.wipe(), 60);
        for (int i = 1; i <= 60; i++) DUE.due("sign " + i + " anew", x.say('r'), i);
        DUE.due("full anew", x.say('r'), FULL);
        // Behind tries() there is as much room again.
        FrozeFirst y = trying("-=;".repeat(19) + "sr=");
        for (int i = 1; i <= 60; i++) DUE.due("sign " + i + " behind tries()", y.say('t'), i);
        DUE.due("full behind tries()", y.say('t'), FULL);
    }

    /** "Signs go: how many there were": 0, 1, 59, 60. */
    private static void wipeHowMany() {
        for (int many : new int[] {0, 1, 59, 60}) {
            FrozeFirst x = saying("s".repeat(many));
            DUE.due("wipe() of " + many, x.wipe(), many);
            DUE.due("wipe() again", x.wipe(), 0);
            DUE.due("signs", x.told(0), 0);
            DUE.due("fault()", x.fault(), 0);
        }
    }

    private static void faultDue(String text, int want) {
        FrozeFirst x = saying(text);
        DUE.due("fault() of " + text, x.fault(), want);
        DUE.due("tries() of " + text, x.tries() > 0 ? 1 : 0, want == NONE ? 1 : 0);
    }

    /** No sign at all: more must come, and 0 is the number of signs. */
    private static void faultOfNoSign() {
        faultDue("", 0);
        FrozeFirst x = trying("s>");
        DUE.due("fault() behind tries()", x.fault(), 0);
        DUE.due("tries() behind tries()", x.tries(), NO);
        DUE.due("TRIES stay", x.told(1), 1);
        x = saying("s>");
        x.wipe();
        DUE.due("fault() behind wipe()", x.fault(), 0);
        DUE.due("tries() behind wipe()", x.tries(), NO);
    }

    /** "the number of signs, if more must come": a step short of an end, the end, a step behind it. */
    private static void faultIfMoreMustCome() {
        String text = "srtn>;-<;r=";
        int[] want = {0, 1, 2, 3, 4, NONE, 6, 7, NONE, 9, 10, NONE};
        for (int many = 0; many <= text.length(); many++) faultDue(text.substring(0, many), want[many]);
    }

    /** "the first sign that can not stand there": all codes behind each place that a try has. */
    private static void faultOfEachSignAtEachPlace() {
        String[] ahead = {"", "-", "s", "sr", "srt", "srtn", "nt", "->", "s<", "tr=", "->;", "->;r", "s>;-", "->;n<"};
        String[] right = {
            "srtn-", "><=", "rtn><=", "tn><=", "n><=", "><=", "sr><=", ";", ";", ";", "srtn-", "stn><=", "><=", ";"};
        for (int i = 0; i < ahead.length; i++) {
            for (int sign = 33; sign <= 126; sign++) {
                boolean stands = right[i].indexOf(sign) >= 0;
                int many = ahead[i].length() + 1;
                boolean ends = "><=".indexOf(sign) >= 0;
                int want = !stands ? many - 1 : ends ? NONE : many;
                faultDue(ahead[i] + (char) sign, want);
            }
        }
    }

    /** "each once, in any order": all orders of all four, and each twice. */
    private static void eachLetterOnce() {
        String letters = "srtn";
        for (int order = 0; order < 256; order++) {
            StringBuilder text = new StringBuilder();
            int twice = -1;
            for (int i = 0; i < 4; i++) {
                char letter = letters.charAt(order >> 2 * i & 3);
                if (twice < 0 && text.indexOf(String.valueOf(letter)) >= 0) twice = i;
                text.append(letter);
            }
            faultDue(text + "=", twice < 0 ? NONE : twice);
        }
        // Once in each try, not once in all of them.
        faultDue("s>;s>;s>", NONE);
        faultDue("srtn>;ntrs<", NONE);
        faultDue("srtns", 4);
    }

    /** "or - (nothing)": with no letter, and once. */
    private static void nothingStandsAlone() {
        faultDue("-", 1);
        faultDue("->", NONE);
        faultDue("--", 1);
        faultDue("-s", 1);
        faultDue("s-", 1);
        faultDue("srtn-", 4);
        faultDue(">", 0);
        faultDue("->;>", 3);
        faultDue("->;-", 4);
        faultDue("->;--", 4);
        DUE.due("nothing was kept", trying("-=").tried(0, 0), 0);
    }

    /** "with a ; between two": not ahead of the first, not behind the last, one and not two. */
    private static void betweenTwo() {
        faultDue(";->", 0);
        faultDue("->", NONE);
        faultDue("->;", 3);
        faultDue("->;;", 3);
        faultDue("->;->", NONE);
        faultDue("->->", 2);
        faultDue("->;->;", 6);
        faultDue("->;->;s", 7);
    }

    /** The first one counts, and not that more must come. */
    private static void firstFaultCounts() {
        faultDue("ss;;", 1);
        faultDue("x", 0);
        faultDue("sx", 1);
        faultDue("s>x", 2);
        faultDue("s>;x", 3);
        faultDue("xs>", 0);
        faultDue("s>;rr>;tt>", 4);
    }

    /** In the last of 60 places: a sign that can not stand, one behind which more must come, one that ends. */
    private static void faultInTheLastPlace() {
        String most = "-=;".repeat(19);
        faultDue(most + "sr=", NONE);
        faultDue(most + "srt", 60);
        faultDue(most + "s=;", 60);
        faultDue(most + "ss=", 58);
        faultDue(most + "srr", 59);
        faultDue(most + "sr-", 59);
        faultDue(most + "s==", 59);
        faultDue(most + "s=", NONE);
        faultDue(most + "sr", 59);
        faultDue(most, 57);
    }

    /** "(they are gone then)"; with a FAULT they stay. */
    private static void triesAreGoneThen() {
        FrozeFirst x = saying("s>;r");
        DUE.due("more must come", x.tries(), NO);
        DUE.due("signs stay", x.told(0), 4);
        DUE.due("no TRIES", x.told(1), 0);
        x.say('=');
        DUE.due("two", x.tries(), 2);
        DUE.due("signs are gone", x.told(0), 0);
        DUE.due("a sign more", x.say('n'), 1);
        x.say('<');
        DUE.due("one, anew", x.tries(), 1);
        DUE.due("the old ones are not there", x.tried(1, 0), UNKNOWN);
        DUE.due("the new one is", x.tried(0, 0), 8);
        sayAll(x, "n<;");
        DUE.due("with a FAULT", x.tries(), NO);
        DUE.due("TRIES stay", x.told(1), 1);
    }

    /** One try is the least; 60 signs hold 20 of them. */
    private static void fewestAndMostTries() {
        DUE.due("one", saying("-=").tries(), 1);
        DUE.due("two", saying("-=;-=").tries(), 2);
        DUE.due("19", saying("-=;".repeat(18) + "-=").tries(), 19);
        DUE.due("20 of 59 signs", saying("-=;".repeat(19) + "s=").tries(), 20);
        FrozeFirst x = trying("-=;".repeat(19) + "st<");
        DUE.due("20 of 60 signs", x.told(1), 20);
        DUE.due("tried(18, 0)", x.tried(18, 0), 0);
        DUE.due("tried(19, 0)", x.tried(19, 0), 5);
        DUE.due("tried(19, 1)", x.tried(19, 1), 1);
        DUE.due("tried(20, 0)", x.tried(20, 0), UNKNOWN);
        DUE.due("said of t", x.said(2, 0), 0);
        // Ten of the longest ones are 59 signs.
        DUE.due("ten of the longest", saying("srtn>;".repeat(9) + "srtn>").tries(), 10);
    }

    /** "TRIES are numbered as they are written": from 0 on. */
    private static void triesAreNumbered() {
        FrozeFirst x = trying("s>;r<;t=;n>");
        int[] kept = {1, 2, 4, 8};
        int[] first = {0, 1, 2, 0};
        for (int i = 0; i < 4; i++) {
            DUE.due("what was kept alike in " + i, x.tried(i, 0), kept[i]);
            DUE.due("which was first in " + i, x.tried(i, 1), first[i]);
            DUE.due("no -1 of " + i, x.tried(i, -1), OUTSIDE);
            DUE.due("no 2 of " + i, x.tried(i, 2), OUTSIDE);
        }
        for (int i : new int[] {-1, 4, 5, 19, 20, Integer.MIN_VALUE, Integer.MAX_VALUE}) {
            DUE.due("tried(" + i + ", 0)", x.tried(i, 0), UNKNOWN);
            DUE.due("tried(" + i + ", 2): UNKNOWN is ahead", x.tried(i, 2), UNKNOWN);
        }
    }

    private static String textOf(int kept, char end) {
        StringBuilder text = new StringBuilder();
        for (int i = 0; i < 4; i++) if ((kept >> i & 1) == 1) text.append("srtn".charAt(i));
        return (kept == 0 ? "-" : text.toString()) + end;
    }

    /** "as bits (1 s, 2 r, 4 t, 8 n)": all sixteen, by all ends. */
    private static void bitsOfEachSet() {
        for (int kept = 0; kept < 16; kept++) {
            for (int end = 0; end < 3; end++) {
                FrozeFirst x = trying(textOf(kept, "><=".charAt(end)));
                DUE.due("kept " + kept, x.tried(0, 0), kept);
                DUE.due("first " + end, x.tried(0, 1), end);
            }
        }
    }

    /** "that differ in what was kept alike by it alone": not by none, not by two. */
    private static void saidByItAlone() {
        for (int one = 0; one < 16; one++) {
            for (int other = 0; other < 16; other++) {
                FrozeFirst x = trying(textOf(one, '>') + ";" + textOf(other, '<'));
                for (int cause = 0; cause < 4; cause++) {
                    DUE.due(one + " and " + other + " by " + cause, x.said(cause, 0), (one ^ other) == 1 << cause ? 1 : 0);
                    DUE.due(one + " and " + other + " alike", x.said(cause, 1), 0);
                }
            }
        }
        FrozeFirst x = trying("->;s<");
        DUE.due("no cause -1", x.said(-1, 2), UNKNOWN);
        DUE.due("no cause 4", x.said(4, -1), UNKNOWN);
        DUE.due("no what -1", x.said(0, -1), OUTSIDE);
        DUE.due("no what 2", x.said(3, 2), OUTSIDE);
    }

    /** "in how many they ended otherwise, in how many alike": each end with each. */
    private static void saidOfEnds() {
        for (char one : "><=".toCharArray()) {
            for (char other : "><=".toCharArray()) {
                FrozeFirst x = trying("n" + one + ";-" + other);
                DUE.due("otherwise " + one + other, x.said(3, 0), one == other ? 0 : 1);
                DUE.due("alike " + one + other, x.said(3, 1), one == other ? 1 : 0);
            }
        }
    }

    /** One try alone makes no pair; ten and ten make a hundred. */
    private static void saidOfMany() {
        DUE.due("one alone", trying("s>").said(0, 1), 0);
        FrozeFirst x = trying("-=;".repeat(10) + "s=;".repeat(9) + "s=");
        DUE.due("ten by ten alike", x.said(0, 1), 100);
        DUE.due("none otherwise", x.said(0, 0), 0);
        x = trying("-=;".repeat(10) + "s=;".repeat(9) + "s>");
        DUE.due("ten by nine alike", x.said(0, 1), 90);
        DUE.due("ten otherwise", x.said(0, 0), 10);
    }

    private static void askDue(String text, int want) {
        DUE.due("ask() of " + text, trying(text).ask(), want);
    }

    /** With no TRIES each of the sixteen would make none: the least is 0. */
    private static void askOfNone() {
        DUE.due("ask() of none", new FrozeFirst().ask(), 0);
        FrozeFirst x = saying("->");
        DUE.due("signs are no TRIES", x.ask(), 0);
        x.tries();
        DUE.due("TRIES", x.ask(), 1);
    }

    /** "that is not among them": of one try, the least that differs by one. */
    private static void askNotAmongThem() {
        for (int kept = 0; kept < 16; kept++) {
            int want = kept == 0 ? 1 : kept & kept - 1;
            for (int bit = 8; bit > 0; bit /= 2) want = Math.min(want, kept ^ bit);
            askDue(textOf(kept, '='), want);
            // Told twice it is one as well.
            askDue(textOf(kept, '=') + ";" + textOf(kept, '<'), want);
        }
        // s would make two pairs with sr, told twice, but is among them; - makes one, r two.
        askDue("s>;sr<;sr>", 2);
    }

    /** "would make most such pairs": one pair more, or as many. */
    private static void askMostPairs() {
        // sr by two; - by two as well: the least.
        askDue("s>;r>", 0);
        // - is there: sr makes two, all others one.
        askDue("s>;r>;->", 3);
        askDue("t>;n>;->", 12);
        // srtn makes four, all else two.
        askDue("rtn>;stn>;srn>;srt>", 15);
        // Three against two: srt by sr, st and rt.
        askDue("sr>;st>;rt>;s>;r>;t>;->", 7);
    }

    /** "(as bits 0 to 15 ..)": with - told more than once a sixteenth bit would make most pairs; it is no TRY. */
    private static void askOfSixteen() {
        // s, r, t and n are there: sr makes two, as each other pair of letters does; 16 would make one, two, three.
        askDue("->;s>;r>;t>;n>", 3);
        askDue("->;->;s>;r>;t>;n>", 3);
        askDue("->;->;->;s>;r>;t>;n>", 3);
        // 15 itself can be asked for: it makes four.
        askDue("rtn>;stn>;srn>;srt>", 15);
    }

    /** "the least such". */
    private static void askTheLeast() {
        // s and r make two each with - and sr: s.
        askDue("->;sr>", 1);
        askDue("->;sr>;s>", 2);
        askDue("->;sr>;s>;r>", 4);
        // rt and rn, tn: two each.
        askDue("r>;t>;n>;->", 6);
    }

    /** All but few are there: 13 sets in 60 signs; then each of the three that are left. */
    private static void askOfNearlyAll() {
        String most = "->;s>;r>;sr>;t>;st>;rt>;srt>;n>;rn>;srn>;rtn>;stn>";
        DUE.holds("no more than 60 signs", most.length() <= 60);
        // sn (9), tn (12) and srtn (15) are left; each makes four.
        askDue(most, 9);
        String other = "->;s>;r>;sr>;t>;st>;rt>;srt>;n>;sn>;rn>;srn>;tn>;stn>";
        DUE.holds("no more than 60 signs by then", other.length() <= 60);
        // rtn (14) and srtn (15) are left: three and three; they are neighbours.
        askDue(other, 14);
        String last = "->;s>;r>;sr>;t>;st>;rt>;n>;sn>;rn>;srn>;tn>;stn>;rtn>";
        DUE.holds("no more than 60 signs at last", last.length() <= 60);
        // srt (7) and srtn (15).
        askDue(last, 7);
    }

    /** From 0 degrees both: at 0, 1 degrees in rounds 1 and 3, so the needle's degree says which was first. */
    private static FrozeFirst drawing(long hot, long cold) {
        FrozeFirst x = new FrozeFirst();
        x.set(1, 50);
        x.set(2, 0);
        x.set(3, 0);
        x.set(10, 0);
        x.pail(0, 0, 0);
        x.pail(1, 0, 0);
        x.row(0, hot);
        x.row(1, cold);
        return x;
    }

    /** "a seed (0 to 9999)". */
    private static void seeds() {
        FrozeFirst x = drawing(1000000000L, 100000000L);
        int[] seed = {-1, 0, 1, 9998, 9999, 10000, Integer.MIN_VALUE, Integer.MAX_VALUE};
        int[] want = {OUTSIDE, 1, 1, 1, 1, OUTSIDE, OUTSIDE, OUTSIDE};
        for (int i = 0; i < seed.length; i++) DUE.due("seed " + seed[i], x.draw(seed[i], 1, 0, 0), want[i]);
        // Two degrees, one each: the draw's last bit. 0: 74; 1: 149; 9998: 29017; 9999: 29092.
        x = drawing(1100000000L, 1000000000L);
        int[] behind = {1, 0, 0, 1};
        for (int i = 1; i <= 4; i++) {
            DUE.due("both at 0 by seed " + seed[i], x.draw(seed[i], 1, 0, 2), behind[i - 1]);
            DUE.due("the cold one by seed " + seed[i], x.draw(seed[i], 1, 0, 1), 1 - behind[i - 1]);
            DUE.due("the hot one by seed " + seed[i], x.draw(seed[i], 1, 0, 0), 0);
        }
    }

    /** "n pairs (1 to 300)". */
    private static void drawnPairs() {
        FrozeFirst x = drawing(1000000000L, 100000000L);
        int[] n = {-1, 0, 1, 2, 299, 300, 301, Integer.MIN_VALUE, Integer.MAX_VALUE};
        int[] want = {OUTSIDE, OUTSIDE, 1, 2, 299, 300, OUTSIDE, OUTSIDE, OUTSIDE};
        for (int i = 0; i < n.length; i++) DUE.due("n " + n[i], x.draw(77, n[i], 0, 0), want[i]);
        FrozeFirst y = new FrozeFirst();
        for (int pairs : new int[] {1, 2, 299, 300}) {
            int all = y.draw(4321, pairs, 2, 0) + y.draw(4321, pairs, 2, 1) + y.draw(4321, pairs, 2, 2);
            DUE.due("each pair is one of three, n " + pairs, all, pairs);
        }
        DUE.due("no meaning 3", y.draw(0, 1, 3, 0), OUTSIDE);
        DUE.due("no first 3", y.draw(0, 1, 0, 3), OUTSIDE);
    }

    /** "left over by 65537": 872 times 75 and 74 is 65474, of 873 it is 65549, so 12; 5242 comes to 2. */
    private static void drawsWrap() {
        FrozeFirst x = drawing(1100000000L, 1000000000L);
        // Left over by 2: 65474 is even, 12 is, 65549 would not be.
        DUE.due("just no wrap", x.draw(872, 1, 0, 2), 1);
        DUE.due("a wrap", x.draw(873, 1, 0, 2), 1);
        DUE.due("871: 65399", x.draw(871, 1, 0, 2), 0);
        DUE.due("874: 87", x.draw(874, 1, 0, 2), 0);
        // 393224 is 6 times 65537 and 2: even, and number 2 of three.
        DUE.due("six wraps", x.draw(5242, 1, 0, 2), 1);
        DUE.due("number 2 of three", drawing(2100000000L, 1000000000L).draw(5242, 1, 0, 1), 1);
        DUE.due("number 2 of three, at 0", drawing(3000000000L, 1000000000L).draw(5242, 1, 0, 2), 1);
        // What the hot one's draw leaves is what the cold one's goes on from: 12, then 974.
        DUE.due("the second draw", drawing(1000000000L, 1100000000L).draw(873, 1, 0, 2), 1);
        // 872: 65474, then 4910624: 74 times 65537 and 60886.
        DUE.due("the second draw of 872", drawing(1000000000L, 1100000000L).draw(872, 1, 0, 2), 1);
        // 871: 65399, then 4904999: 74 times and 55261.
        DUE.due("the second draw of 871", drawing(1000000000L, 1100000000L).draw(871, 1, 0, 0), 1);
    }

    /** "its number among them (0 degrees first)": by seed 0 the hot one's number is 74: 2 of nine or of three. */
    private static void numbersOfARow() {
        DUE.due("the last at 0", drawing(3600000000L, 1000000000L).draw(0, 1, 0, 2), 1);
        DUE.due("the first at 1", drawing(2700000000L, 1000000000L).draw(0, 1, 0, 1), 1);
        DUE.due("the last of all", drawing(2100000000L, 1000000000L).draw(0, 1, 0, 1), 1);
        DUE.due("all at 0", drawing(9000000000L, 1000000000L).draw(0, 1, 0, 2), 1);
        // Degrees that never are have no number: at 9 alone, and 3 ahead of 9.
        DUE.due("at 9 alone", drawing(1L, 10000000L).draw(0, 1, 0, 1), 1);
        FrozeFirst x = drawing(3000006L, 1000000L);
        DUE.due("the last at 3", x.draw(0, 1, 0, 2), 1);
        x.row(0, 2000007L);
        DUE.due("the first at 9", x.draw(0, 1, 0, 1), 1);
        // The most: 90 of them; 74 is at 8 (72 to 80).
        x = drawing(9999999999L, 10L);
        DUE.due("74 of 90 is at 8", x.draw(0, 1, 0, 2), 1);
        x.row(1, 100L);
        DUE.due("and not at 7", x.draw(0, 1, 0, 1), 1);
        // Seed 1 draws 149: 59 of 90 is at 6 (54 to 62); seed 5242 draws 2.
        x.row(1, 1000L);
        DUE.due("59 of 90 is at 6", x.draw(1, 1, 0, 2), 1);
        x.row(1, 1000000000L);
        DUE.due("2 of 90 is at 0", x.draw(5242, 1, 0, 2), 1);
    }

    /** "the hot PAIL's, then the cold one's": seed 0 draws 74, then 5624: 2 and 8 of nine. */
    private static void hotThenCold() {
        FrozeFirst x = drawing(3600000000L, 3600000000L);
        DUE.due("2 at 0, 8 at 1", x.draw(0, 1, 0, 0), 1);
        x.row(1, 8100000000L);
        DUE.due("8 of nine is at 1 yet", x.draw(0, 1, 0, 0), 1);
        x.row(1, 9000000000L);
        DUE.due("both at 0", x.draw(0, 1, 0, 2), 1);
        x.row(0, 2700000000L);
        DUE.due("2 at 1", x.draw(0, 1, 0, 1), 1);
    }

    /** "STATE: it was not" kept; "an IMAGE (0, 1)". */
    private static void imagesNotKept() {
        FrozeFirst x = new FrozeFirst();
        int[] n = {-1, 0, 1, 2, Integer.MIN_VALUE, Integer.MAX_VALUE};
        int[] want = {OUTSIDE, STATE, STATE, OUTSIDE, OUTSIDE, OUTSIDE};
        for (int i = 0; i < n.length; i++) DUE.due("restore(" + n[i] + ")", x.restore(n[i]), want[i]);
        DUE.due("image(1)", x.image(1), 1);
        DUE.due("the other was not", x.restore(0), STATE);
        DUE.due("this was", x.restore(1), 1);
        DUE.due("and stays so", x.restore(1), 1);
        DUE.due("restoring keeps nothing", x.restore(0), STATE);
        DUE.due("image(-1)", x.image(-1), OUTSIDE);
        DUE.due("image(2)", x.image(2), OUTSIDE);
        DUE.due("still not", x.restore(0), STATE);
        DUE.due("image(0)", x.image(0), 1);
        DUE.due("now it was", x.restore(0), 1);
        FrozeFirst y = new FrozeFirst();
        DUE.due("another object's was not", y.restore(0), STATE);
    }

    /** "All but signs is kept". */
    private static void imageKeepsAllButSigns() {
        FrozeFirst x = trying("s>");
        sayAll(x, "r<");
        x.image(0);
        DUE.due("signs stay", x.told(0), 2);
        x.wipe();
        x.restore(0);
        DUE.due("signs that went stay away", x.told(0), 0);
        sayAll(x, "abcd");
        x.restore(0);
        DUE.due("signs that came stay", x.told(0), 4);
        DUE.due("and their FAULT", x.fault(), 0);
        DUE.due("TRIES are as they were", x.tried(0, 0), 1);
    }

    /** Of no TRIES, and of as many as there can be. */
    private static void imageOfEmptyAndFull() {
        FrozeFirst x = new FrozeFirst();
        x.image(0);
        sayAll(x, "-=;".repeat(19) + "sn>");
        x.tries();
        x.image(1);
        x.restore(0);
        DUE.due("no TRIES", x.told(1), 0);
        DUE.due("none to be seen", x.tried(0, 0), UNKNOWN);
        DUE.due("ask() of none", x.ask(), 0);
        x.restore(1);
        DUE.due("20 TRIES", x.told(1), 20);
        DUE.due("the last of them", x.tried(19, 0), 9);
        DUE.due("how it ended", x.tried(19, 1), 0);
        DUE.due("no more", x.tried(20, 0), UNKNOWN);
    }

    /** "All": each thing that a call can move, moved by itself. */
    private static void imageOfEachThing() {
        for (int thing = 0; thing < 17; thing++) {
            for (int n = 0; n < 2; n++) {
                FrozeFirst x = trying("s>;n<");
                x.image(n);
                move(x, thing);
                DUE.due("restore(" + n + ")", x.restore(n), 1);
                for (int what = 0; what <= 20; what++) {
                    DUE.due("told(" + what + ") behind thing " + thing, x.told(what), trying("s>;n<").told(what));
                }
                DUE.due("ROW of the hot one behind thing " + thing, x.row(0, 1), 123210000L);
                DUE.due("ROW of the cold one behind thing " + thing, x.row(1, 1), 123210000L);
                DUE.due("the first of TRIES behind thing " + thing, x.tried(0, 0), 1);
                DUE.due("the other of TRIES behind thing " + thing, x.tried(1, 1), 1);
            }
        }
    }

    private static void move(FrozeFirst x, int thing) {
        if (thing <= 10) DUE.holds("moved", x.set(thing, 3) != 3);
        else if (thing <= 12) x.pail(thing - 11, 0, 3);
        else if (thing <= 14) x.pail(thing - 13, 1, 33);
        else x.row(thing - 15, 3);
        sayAll(x, "r=;t=;-=");
        x.tries();
    }

    /** "as it was when it was kept": kept anew it is the newer one, and later calls do not move it. */
    private static void imageOverImage() {
        FrozeFirst x = new FrozeFirst();
        x.pail(0, 0, 1);
        x.image(0);
        x.pail(0, 0, 2);
        x.image(0);
        x.pail(0, 0, 3);
        x.restore(0);
        DUE.due("the newer one", x.told(2), 2);
        x.pail(0, 0, 4);
        x.row(0, 9);
        x.set(9, 3);
        sayAll(x, "n>");
        x.tries();
        x.restore(0);
        DUE.due("START", x.told(2), 2);
        DUE.due("ROW", x.row(0, 8), 123210000L);
        DUE.due("the GLASS's CELL", x.told(19), 1);
        DUE.due("TRIES", x.told(1), 0);
        x.restore(0);
        DUE.due("ROW once more", x.row(0, 8), 123210000L);
    }

    /** "0 signs, 1 TRIES, 2 and 3 START, 4 and 5 MASS, 10 to 20 what set() sets": each, and the gaps. */
    private static void toldOfAll() {
        FrozeFirst x = trying("s>;r>;t>");
        sayAll(x, "ab");
        x.pail(0, 0, 61);
        x.pail(1, 0, 62);
        x.pail(0, 1, 63);
        x.pail(1, 1, 64);
        int[] alike = {31, 32, 33, 34, 35, 36, 37, 38, 39, 2, 5};
        for (int which = 0; which <= 10; which++) x.set(which, alike[which]);
        int[] low = {OUTSIDE, 2, 3, 61, 62, 63, 64, OUTSIDE, OUTSIDE, OUTSIDE, OUTSIDE};
        for (int what = -1; what <= 9; what++) DUE.due("told(" + what + ")", x.told(what), low[what + 1]);
        for (int what = 10; what <= 20; what++) DUE.due("told(" + what + ")", x.told(what), alike[what - 10]);
        DUE.due("told(21)", x.told(21), OUTSIDE);
        DUE.due("told(22)", x.told(22), OUTSIDE);
    }

    /** "at most 512 calls after it has been made": the last of them is still as due. */
    private static void callsUpTo512() {
        FrozeFirst x = new FrozeFirst();
        int was = 90;
        for (int call = 1; call <= 510; call++) {
            int v = call % 101;
            DUE.due("call " + call, x.pail(0, 0, v), was);
            was = v;
        }
        DUE.due("call 511", x.time(0, 4, 0), plainTime(was));
        DUE.due("call 512", x.told(2), was);
    }

    private static int plainTime(int start) {
        Plain plain = new Plain();
        plain.start[0] = start;
        return plain.time(0, 4, 0);
    }
}
