/** Promises 15 to 21: say, wipe, fault, tries, tried, said, ask. */
public final class TriesTest {
    private static final Due DUE = new Due();

    public static void main(String[] args) {
        say();
        wipe();
        fault();
        faultOfAFullText();
        tries();
        triesReplace();
        tried();
        said();
        ask();
        DUE.end();
    }

    private static FrozeFirst saying(String text) {
        FrozeFirst x = new FrozeFirst();
        sayAll(x, text);
        return x;
    }

    private static FrozeFirst trying(String text) {
        FrozeFirst x = saying(text);
        x.tries();
        return x;
    }

    private static void sayAll(FrozeFirst x, String text) {
        for (int i = 0; i < text.length(); i++) {
            x.say(text.charAt(i));
        }
    }

    private static void say() {
        FrozeFirst x = new FrozeFirst();
        for (int sign : new int[] {Integer.MIN_VALUE, -1, 0, 10, 32, 127, 255, 256 + 45, 65536 + 45, Integer.MAX_VALUE}) {
            DUE.due("say(" + sign + ")", x.say(sign), FrozeFirst.OUTSIDE);
        }
        DUE.due("say(33)", x.say(33), 1);
        DUE.due("say(126)", x.say(126), 2);
        for (int i = 3; i <= 60; i++) {
            DUE.due("sign " + i, x.say(32 + i), i);
        }
        DUE.due("sign 61", x.say('s'), FrozeFirst.FULL);
        DUE.due("OUTSIDE is ahead of FULL", x.say(32), FrozeFirst.OUTSIDE);
        DUE.due("signs behind refusals", x.told(0), 60);
        DUE.due("the first sign still stands wrong", x.fault(), 0);
    }

    private static void wipe() {
        FrozeFirst x = saying("-=");
        x.tries();
        DUE.due("wipe() of none", x.wipe(), 0);
        sayAll(x, "srt");
        DUE.due("wipe()", x.wipe(), 3);
        DUE.due("wipe() again", x.wipe(), 0);
        DUE.due("tries stay", x.told(1), 1);
        DUE.due("say behind wipe", x.say('s'), 1);
        sayAll(x, ">");
        DUE.due("old signs do not count", x.tries(), 1);
        DUE.due("what was kept", x.tried(0, 0), 1);
    }

    private static void faultDue(String text, int want) {
        DUE.due("fault() of " + text, saying(text).fault(), want);
    }

    private static void fault() {
        int none = FrozeFirst.NONE;
        faultDue("", 0);
        for (String text : new String[] {"->", "-<", "-=", "s>", "srtn<", "ntrs=", "->;->", "s=;r<;tn>", "sn>;sn>"}) {
            faultDue(text, none);
        }
        for (String text : new String[] {"-", "s", "sr", "srtn", "->;", "s>;-", "s>;r"}) {
            faultDue(text, text.length());
        }
        for (String text : new String[] {">", "<", "=", ";", "S>", "x", "a>", "!", "~"}) {
            faultDue(text, 0);
        }
        for (String text : new String[] {"--", "-s>", "-;", "ss>", "s-", "s;", "sx", "s,>"}) {
            faultDue(text, 1);
        }
        for (String text : new String[] {"->>", "->s", "-=-", "srs>", "s>=", "->,"}) {
            faultDue(text, 2);
        }
        for (String text : new String[] {"s>;;", "s>;>", "->;,", "rtnr"}) {
            faultDue(text, 3);
        }
        faultDue("srtns>", 4);
        faultDue("srtn-", 4);
        faultDue("srtn;", 4);
        faultDue("s>;ss", 4);
        faultDue("s>;-r", 4);
        faultDue("s>;s<;", 6);
        FrozeFirst x = saying("ss");
        x.fault();
        DUE.due("fault() changes nothing", x.told(0), 2);
        DUE.due("fault() again", x.fault(), 1);
    }

    private static void faultOfAFullText() {
        StringBuilder text = new StringBuilder();
        for (int i = 0; i < 20; i++) {
            text.append("-=;");
        }
        FrozeFirst x = saying(text.toString());
        DUE.due("more must come behind 60 signs", x.fault(), 60);
        DUE.due("tries() of that", x.tries(), FrozeFirst.NO);
        x = saying(text.substring(0, 59));
        DUE.due("fault() of twenty tries", x.fault(), FrozeFirst.NONE);
        DUE.due("tries() of twenty", x.tries(), 20);
        DUE.due("tried(19, 1)", x.tried(19, 1), 2);
        DUE.due("tried(20, 1)", x.tried(20, 1), FrozeFirst.UNKNOWN);
        x = saying(text.substring(0, 57) + "s<;");
        DUE.due("more must come behind a letter's try", x.fault(), 60);
        x = saying(text.substring(0, 57) + "sr<");
        DUE.due("sixty signs without a fault", x.fault(), FrozeFirst.NONE);
        DUE.due("twenty tries of sixty signs", x.tries(), 20);
    }

    private static void tries() {
        FrozeFirst x = new FrozeFirst();
        DUE.due("tries() of nothing", x.tries(), FrozeFirst.NO);
        sayAll(x, "s>;");
        DUE.due("tries() when more must come", x.tries(), FrozeFirst.NO);
        DUE.due("signs stay then", x.told(0), 3);
        sayAll(x, "n<");
        DUE.due("tries()", x.tries(), 2);
        DUE.due("signs are gone", x.told(0), 0);
        DUE.due("TRIES are there", x.told(1), 2);
        DUE.due("tries() once more", x.tries(), FrozeFirst.NO);
        DUE.due("TRIES are there still", x.told(1), 2);
    }

    private static void triesReplace() {
        FrozeFirst x = trying("s>;r>;t>");
        sayAll(x, "n<x");
        DUE.due("tries() with a fault", x.tries(), FrozeFirst.NO);
        DUE.due("a fault leaves the old TRIES", x.tried(0, 0), 1);
        DUE.due("all of them", x.told(1), 3);
        x.wipe();
        sayAll(x, "n<");
        DUE.due("fault() reads, but changes no TRIES", x.fault(), FrozeFirst.NONE);
        DUE.due("the old TRIES", x.tried(0, 0), 1);
        DUE.due("tries() anew", x.tries(), 1);
        DUE.due("tried(0, 0) anew", x.tried(0, 0), 8);
        DUE.due("tried(1, 0) is gone", x.tried(1, 0), FrozeFirst.UNKNOWN);
    }

    private static void tried() {
        FrozeFirst x = trying("ns>;-<;r=;tsrn<");
        int[] kept = {9, 0, 2, 15};
        int[] first = {0, 1, 2, 1};
        for (int i = 0; i < 4; i++) {
            DUE.due("tried(" + i + ", 0)", x.tried(i, 0), kept[i]);
            DUE.due("tried(" + i + ", 1)", x.tried(i, 1), first[i]);
        }
        for (int far : new int[] {Integer.MIN_VALUE, -1, 4, 20, Integer.MAX_VALUE}) {
            DUE.due("tried(" + far + ", 2)", x.tried(far, 2), FrozeFirst.UNKNOWN);
        }
        for (int far : new int[] {Integer.MIN_VALUE, -1, 2, Integer.MAX_VALUE}) {
            DUE.due("tried(0, " + far + ")", x.tried(0, far), FrozeFirst.OUTSIDE);
        }
    }

    private static void saidDue(FrozeFirst x, int... want) {
        for (int cause = 0; cause < 4; cause++) {
            DUE.due("said(" + cause + ", 0)", x.said(cause, 0), want[2 * cause]);
            DUE.due("said(" + cause + ", 1)", x.said(cause, 1), want[2 * cause + 1]);
        }
    }

    private static void said() {
        saidDue(new FrozeFirst(), 0, 0, 0, 0, 0, 0, 0, 0);
        saidDue(trying("->;s<"), 1, 0, 0, 0, 0, 0, 0, 0);
        saidDue(trying("r=;-="), 0, 0, 0, 1, 0, 0, 0, 0);
        // Told twice, a try makes two pairs; two alike in what they kept make none.
        saidDue(trying("->;->;t<"), 0, 0, 0, 0, 2, 0, 0, 0);
        saidDue(trying("->;-<;t<;t>"), 0, 0, 0, 0, 2, 2, 0, 0);
        // By two causes at once: no pair.
        saidDue(trying("->;sr<"), 0, 0, 0, 0, 0, 0, 0, 0);
        saidDue(trying("srt>;nrst=;sn=;s>"), 0, 0, 0, 0, 0, 0, 2, 0);
        FrozeFirst x = trying("->;s<");
        for (int far : new int[] {Integer.MIN_VALUE, -1, 4, Integer.MAX_VALUE}) {
            DUE.due("said(" + far + ", 9)", x.said(far, 9), FrozeFirst.UNKNOWN);
        }
        for (int far : new int[] {Integer.MIN_VALUE, -1, 2, Integer.MAX_VALUE}) {
            DUE.due("said(3, " + far + ")", x.said(3, far), FrozeFirst.OUTSIDE);
        }
    }

    private static void askDue(String text, int want) {
        DUE.due("ask() of " + text, trying(text).ask(), want);
    }

    private static void ask() {
        DUE.due("ask() of a new object", new FrozeFirst().ask(), 0);
        askDue("->", 1);
        askDue("s>", 0);
        askDue("s>;->", 2);
        // rt makes two pairs, with r and with t; each other one makes one.
        askDue("->;r>;t>", 6);
        askDue("r>;t>;n<", 0);
        askDue("srt>;srn>;stn>;rtn>", 15);
        // Told twice, it counts twice: sr and st make three pairs each, and sr is less.
        askDue("srt>;srt>;s>", 3);
        askDue("srtn>", 7);
        // There is no seventeenth set that would make three pairs with nothing: sr makes two.
        askDue("->;->;->;s>;r>;t>;n>", 3);
        // sn, tn and srtn are not there and would make four pairs each.
        String most = "->;s>;r>;sr>;t>;st>;rt>;srt>;n>;rn>;srn>;rtn>;stn>";
        DUE.due("signs of nearly all", most.length() <= 60 ? 1 : 0, 1);
        askDue(most, 9);
    }
}
