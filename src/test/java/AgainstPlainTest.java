import java.util.Random;

/** Runs of calls drawn from fixed seeds, each answer held against a second, plain reckoning: all promises together. */
public final class AgainstPlainTest {
    private static final int[] LEAST = {1, 0, 0, 0, 0, 0, 0, 0, 1, 0, 0};
    private static final int[] MOST = {40, 50, 50, 50, 50, 50, 50, 99, 80, 3, 7};
    private static final String SIGNS = "srtn-><=;;srtn-><=x";
    private static final Due DUE = new Due();

    private final Random random;
    private final FrozeFirst x = new FrozeFirst();
    private final Plain plain = new Plain();
    private final Plain[] images = new Plain[2];

    private AgainstPlainTest(int seed) {
        random = new Random(seed);
    }

    public static void main(String[] args) {
        for (int seed = 1; seed <= 600; seed++) {
            AgainstPlainTest run = new AgainstPlainTest(seed);
            int before = DUE.asked();
            // The document promises 512 calls of an object; a step here makes up to some 100.
            for (int step = 0; DUE.asked() - before < 410; step++) {
                run.oneStep("seed " + seed + " step " + step + ": ");
            }
        }
        DUE.end();
    }

    private int upTo(int most) {
        return random.nextInt(most + 1);
    }

    /** Edges come as often as all that is between them. */
    private int between(int least, int most) {
        int kind = random.nextInt(4);
        return kind == 0 ? least : kind == 1 ? most : least + random.nextInt(most - least + 1);
    }

    private void oneStep(String name) {
        switch (random.nextInt(12)) {
            case 0 -> tellPail(name);
            case 1, 2 -> tellAlike(name);
            case 3, 4 -> askRun(name);
            case 5 -> askFirst(name);
            case 6 -> askCause(name);
            case 7, 8, 9 -> saySome(name);
            case 10 -> askTries(name);
            default -> keep(name);
        }
    }

    private void tellPail(String name) {
        int pail = upTo(1);
        switch (upTo(2)) {
            case 0 -> {
                int v = upTo(1) == 0 ? upTo(5) : between(0, 100);
                DUE.due(name + "pail(" + pail + ", 0, " + v + ")", x.pail(pail, 0, v), plain.start[pail]);
                plain.start[pail] = v;
            }
            case 1 -> {
                int v = between(10, 100);
                DUE.due(name + "pail(" + pail + ", 1, " + v + ")", x.pail(pail, 1, v), plain.mass[pail]);
                plain.mass[pail] = v;
            }
            default -> {
                StringBuilder digits = new StringBuilder();
                for (int i = 0; i < 10; i++) digits.append(upTo(1) == 0 ? 0 : upTo(9));
                if (digits.toString().equals("0000000000")) digits.setCharAt(upTo(9), '1');
                long row = Long.parseLong(digits.toString());
                DUE.due(name + "row(" + pail + ", " + row + ")", x.row(pail, row), Long.parseLong(plain.row[pail]));
                plain.row[pail] = digits.toString();
            }
        }
    }

    private void tellAlike(String name) {
        int which = upTo(10);
        int v = between(LEAST[which], MOST[which]);
        DUE.due(name + "set(" + which + ", " + v + ")", x.set(which, v), plain.alike[which]);
        plain.alike[which] = v;
    }

    private void askRun(String name) {
        int pail = upTo(1);
        int b = upTo(9);
        int round = upTo(1) == 0 ? upTo(20) : between(0, 600);
        for (int what = 0; what < 7; what++) {
            String call = name + "at(" + pail + ", " + b + ", " + round + ", " + what + ")";
            DUE.due(call, x.at(pail, b, round, what), plain.at(pail, b, round, what));
        }
        for (int meaning = 0; meaning < 3; meaning++) {
            String call = name + "time(" + pail + ", " + b + ", " + meaning + ")";
            DUE.due(call, x.time(pail, b, meaning), plain.time(pail, b, meaning));
        }
        int cell = upTo(3);
        DUE.due(name + "glass(" + pail + ", " + b + ", " + cell + ")", x.glass(pail, b, cell), plain.glass(pail, b, cell));
    }

    private void askFirst(String name) {
        int meaning = upTo(2);
        int first = upTo(2);
        int hot = upTo(9);
        int cold = upTo(9);
        String call = name + "first(" + meaning + ", " + hot + ", " + cold + ")";
        DUE.due(call, x.first(meaning, hot, cold), plain.first(meaning, hot, cold));
        for (int part = 0; part < 2; part++) {
            call = name + "odds(" + meaning + ", " + first + ", " + part + ")";
            DUE.due(call, x.odds(meaning, first, part), plain.odds(meaning, first, part));
        }
        int seed = between(0, 9999);
        int n = between(1, 300);
        call = name + "draw(" + seed + ", " + n + ", " + meaning + ", " + first + ")";
        DUE.due(call, x.draw(seed, n, meaning, first), plain.draw(seed, n, meaning, first));
    }

    private void askCause(String name) {
        int meaning = upTo(2);
        int b = upTo(9);
        int causes = upTo(7);
        int cause = upTo(2);
        int what = upTo(2);
        String call = name + "gain(" + meaning + ", " + b + ", " + causes + ")";
        DUE.due(call, x.gain(meaning, b, causes), plain.gain(meaning, b, causes));
        call = name + "could(" + meaning + ", " + b + ", " + cause + ", " + what + ")";
        DUE.due(call, x.could(meaning, b, cause, what), plain.could(meaning, b, cause, what));
        DUE.due(name + "any(" + meaning + ", " + b + ")", x.any(meaning, b), plain.any(meaning, b));
    }

    private void saySome(String name) {
        if (upTo(3) == 0) {
            DUE.due(name + "wipe()", x.wipe(), plain.signs.length());
            plain.signs = "";
        }
        String text = upTo(1) == 0 ? someSigns() : someTries();
        for (int i = 0; i < text.length(); i++) {
            boolean full = plain.signs.length() == 60;
            if (!full) plain.signs += text.charAt(i);
            DUE.due(name + "say(" + (int) text.charAt(i) + ")", x.say(text.charAt(i)), full ? -4 : plain.signs.length());
        }
        DUE.due(name + "fault() of " + plain.signs, x.fault(), plain.fault());
    }

    private String someSigns() {
        StringBuilder text = new StringBuilder();
        for (int i = upTo(5); i >= 0; i--) text.append(SIGNS.charAt(random.nextInt(SIGNS.length())));
        return text.toString();
    }

    private String someTries() {
        StringBuilder text = new StringBuilder();
        if (plain.signs.matches(".*[<>=]")) text.append(';');
        for (int i = upTo(12); i >= 0; i--) {
            int kept = upTo(15);
            if (kept == 0) text.append('-');
            for (int letter = 0; letter < 4; letter++) {
                if ((kept >> letter) % 2 == 1) text.append("srtn".charAt(letter));
            }
            text.append("><=".charAt(upTo(2)));
            if (i > 0) text.append(';');
        }
        return text.toString();
    }

    private void askTries(String name) {
        DUE.due(name + "tries()", x.tries(), plain.tries());
        DUE.due(name + "told(0)", x.told(0), plain.signs.length());
        DUE.due(name + "told(1)", x.told(1), plain.tries.size());
        for (int i = 0; i < plain.tries.size(); i++) {
            DUE.due(name + "tried(" + i + ", 0)", x.tried(i, 0), plain.tried(i, 0));
            DUE.due(name + "tried(" + i + ", 1)", x.tried(i, 1), plain.tried(i, 1));
        }
        for (int cause = 0; cause < 4; cause++) {
            DUE.due(name + "said(" + cause + ", 0)", x.said(cause, 0), plain.said(cause, 0));
            DUE.due(name + "said(" + cause + ", 1)", x.said(cause, 1), plain.said(cause, 1));
        }
        DUE.due(name + "ask()", x.ask(), plain.ask());
    }

    private void keep(String name) {
        int n = upTo(1);
        if (upTo(1) == 0) {
            DUE.due(name + "image(" + n + ")", x.image(n), 1);
            images[n] = plain.copy();
        } else {
            DUE.due(name + "restore(" + n + ")", x.restore(n), images[n] == null ? -3 : 1);
            if (images[n] != null) plain.takeAllButSigns(images[n]);
        }
        for (int which = 0; which <= 10; which++) {
            DUE.due(name + "told(10 + " + which + ")", x.told(10 + which), plain.alike[which]);
        }
        for (int pail = 0; pail < 2; pail++) {
            DUE.due(name + "told(2 + " + pail + ")", x.told(2 + pail), plain.start[pail]);
            DUE.due(name + "told(4 + " + pail + ")", x.told(4 + pail), plain.mass[pail]);
        }
    }
}
