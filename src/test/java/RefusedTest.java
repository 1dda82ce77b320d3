import java.util.ArrayList;
import java.util.List;

/**
 * "They change nothing": of two objects that were told the same, one is asked what is refused; then both must answer all
 * that can be asked alike. Calls that only tell something change nothing either.
 */
public final class RefusedTest {
    private static final Due DUE = new Due();
    private static final String FULL_TEXT = "-=;".repeat(20);

    /** What is done with one of the two objects. */
    interface Deed {
        long on(FrozeFirst x);
    }

    /** An object in some state, always the same. */
    interface State {
        FrozeFirst made();
    }

    private static final State[] STATES = {
        FrozeFirst::new, RefusedTest::busy, RefusedTest::withAFault, RefusedTest::full, RefusedTest::atTheBounds};

    public static void main(String[] args) {
        numbersRefused();
        manyRefusedInARow();
        fullRefuses();
        faultRefuses();
        imageNotKept();
        noSuchTry();
        rowsRefused();
        whatOnlyTells();
        theTwoWouldDiffer();
        DUE.end();
    }

    private static void sayAll(FrozeFirst x, String text) {
        for (char sign : text.toCharArray()) x.say(sign);
    }

    /** All is moved from where it was at first; TRIES, an image, and signs without a fault are there. */
    private static FrozeFirst busy() {
        FrozeFirst x = new FrozeFirst();
        sayAll(x, "s>;sr<;n=;srtn>");
        x.tries();
        x.pail(0, 0, 71);
        x.pail(1, 0, 33);
        x.pail(0, 1, 42);
        x.pail(1, 1, 87);
        x.row(0, 1020304050L);
        x.row(1, 9080706050L);
        for (int which = 0; which <= 10; which++) x.set(which, which < 9 ? 20 + which : 3);
        x.image(1);
        x.pail(0, 0, 72);
        x.set(0, 7);
        x.row(0, 3333333333L);
        sayAll(x, "-<;rt>");
        return x;
    }

    private static FrozeFirst withAFault() {
        FrozeFirst x = busy();
        sayAll(x, ";tt>");
        return x;
    }

    private static FrozeFirst full() {
        FrozeFirst x = busy();
        x.wipe();
        x.image(0);
        sayAll(x, FULL_TEXT);
        return x;
    }

    /** All at its least or its most; as many TRIES as there can be. */
    private static FrozeFirst atTheBounds() {
        FrozeFirst x = new FrozeFirst();
        sayAll(x, FULL_TEXT.substring(0, 57) + "sr>");
        x.tries();
        x.pail(0, 0, 100);
        x.pail(1, 0, 0);
        x.pail(0, 1, 10);
        x.row(0, 1);
        x.row(1, 9999999999L);
        int[] v = {40, 0, 50, 0, 50, 50, 0, 99, 1, 3, 0};
        for (int which = 0; which <= 10; which++) x.set(which, v[which]);
        return x;
    }

    private static List<Long> allAnswers(FrozeFirst x) {
        List<Long> answers = new ArrayList<>();
        tell(x, answers);
        for (int meaning = 0; meaning < 3; meaning++) {
            answers.add((long) x.time(0, 4, meaning));
            answers.add((long) x.time(1, 2, meaning));
            answers.add(x.odds(meaning, 0, 0));
            answers.add((long) x.draw(5, 40, meaning, 1));
        }
        answers.add((long) x.at(0, 3, 50, 4));
        answers.add((long) x.gain(0, 3, 5));
        rowsOf(x, answers);
        answers.add((long) x.fault());
        answers.add((long) x.tries());
        tell(x, answers);
        for (int n = 0; n < 2; n++) {
            answers.add((long) x.restore(n));
            tell(x, answers);
            rowsOf(x, answers);
        }
        answers.add((long) x.say('s'));
        answers.add((long) x.fault());
        answers.add((long) x.wipe());
        return answers;
    }

    private static void tell(FrozeFirst x, List<Long> answers) {
        for (int what = 0; what <= 20; what++) answers.add((long) x.told(what));
        for (int i = 0; i < 21; i++) {
            answers.add((long) x.tried(i, 0));
            answers.add((long) x.tried(i, 1));
        }
        for (int cause = 0; cause < 4; cause++) {
            answers.add((long) x.said(cause, 0));
            answers.add((long) x.said(cause, 1));
        }
        answers.add((long) x.ask());
    }

    /** ROWS can only be seen by telling others. */
    private static void rowsOf(FrozeFirst x, List<Long> answers) {
        answers.add(x.row(0, 11));
        answers.add(x.row(1, 22));
    }

    /** Want null: any answer will do. */
    private static void changesNothing(String what, State state, Deed deed, Long want) {
        FrozeFirst one = state.made();
        FrozeFirst other = state.made();
        long got = deed.on(one);
        if (want != null) DUE.due(what, got, want);
        DUE.holds(what + " changes nothing", allAnswers(one).equals(allAnswers(other)));
    }

    private static void numbersRefused() {
        for (Calls.Call call : Calls.all()) {
            // chance() has 40 rows of bounds and holds nothing: one of them will do here.
            if (call.name().startsWith("chance(k") && !call.name().contains(" 40,")) continue;
            for (int place = 0; place < call.bounds().size(); place++) {
                for (int edge : call.bounds().get(place).edges()) {
                    if (call.bounds().get(place).refuses(edge)) refusedAt(call, place, edge);
                }
            }
        }
    }

    private static void refusedAt(Calls.Call call, int place, int edge) {
        int[] v = new int[call.bounds().size()];
        for (int i = 0; i < v.length; i++) v[i] = call.bounds().get(i).least();
        v[place] = edge;
        for (State state : STATES) {
            // Without TRIES tried() is refused by its first number already, and so it may be here: it changes nothing.
            Long want = call.name().equals("tried") ? null : Long.valueOf(call.refusal(v));
            changesNothing(call.told(v), state, x -> call.ask().of(x, v), want);
        }
    }

    private static void manyRefusedInARow() {
        for (State state : STATES) {
            changesNothing("all refusals in a row", state, x -> {
                x.pail(2, 0, 1);
                x.pail(0, 2, 50);
                x.pail(1, 0, 101);
                x.pail(1, 1, 9);
                x.row(0, 0);
                x.row(1, 10000000000L);
                x.set(11, 1);
                x.set(0, 0);
                x.set(10, 8);
                x.time(0, 10, 0);
                x.at(0, 0, 601, 0);
                x.glass(0, 0, 4);
                x.gain(0, 0, 8);
                x.could(0, 0, 3, 0);
                x.any(3, 0);
                x.say(32);
                x.say(127);
                x.tried(21, 0);
                x.said(4, 0);
                x.draw(10000, 1, 0, 0);
                x.image(2);
                x.restore(2);
                return x.image(-1);
            }, (long) FrozeFirst.OUTSIDE);
        }
    }

    /** "FULL": a sign more than 60; OUTSIDE is ahead of it. */
    private static void fullRefuses() {
        for (char sign : ";>-s!~".toCharArray()) {
            changesNothing("say(" + sign + ")", RefusedTest::full, x -> x.say(sign), (long) FrozeFirst.FULL);
        }
        changesNothing("say(32)", RefusedTest::full, x -> x.say(32), (long) FrozeFirst.OUTSIDE);
        changesNothing("say(127)", RefusedTest::full, x -> x.say(127), (long) FrozeFirst.OUTSIDE);
    }

    /** "NO: there is a FAULT": signs and TRIES stay as they are. */
    private static void faultRefuses() {
        changesNothing("tries() of no sign", FrozeFirst::new, FrozeFirst::tries, (long) FrozeFirst.NO);
        changesNothing("tries() with a fault", RefusedTest::withAFault, FrozeFirst::tries, (long) FrozeFirst.NO);
        changesNothing("tries() when more must come", RefusedTest::full, FrozeFirst::tries, (long) FrozeFirst.NO);
        changesNothing("tries() of no sign more", RefusedTest::atTheBounds, FrozeFirst::tries, (long) FrozeFirst.NO);
    }

    /** "STATE: it was not" kept; a number that is no image's is refused ahead of that. */
    private static void imageNotKept() {
        changesNothing("restore(0)", FrozeFirst::new, x -> x.restore(0), (long) FrozeFirst.STATE);
        changesNothing("restore(1)", FrozeFirst::new, x -> x.restore(1), (long) FrozeFirst.STATE);
        changesNothing("restore(0), the other kept", RefusedTest::busy, x -> x.restore(0), (long) FrozeFirst.STATE);
        changesNothing("restore(-1)", FrozeFirst::new, x -> x.restore(-1), (long) FrozeFirst.OUTSIDE);
        changesNothing("restore(2)", FrozeFirst::new, x -> x.restore(2), (long) FrozeFirst.OUTSIDE);
    }

    private static void noSuchTry() {
        changesNothing("tried(0, 0) of none", FrozeFirst::new, x -> x.tried(0, 0), (long) FrozeFirst.UNKNOWN);
        changesNothing("tried(0, 2) of none", FrozeFirst::new, x -> x.tried(0, 2), (long) FrozeFirst.UNKNOWN);
        changesNothing("tried(4, 0) of four", RefusedTest::busy, x -> x.tried(4, 0), (long) FrozeFirst.UNKNOWN);
        changesNothing("tried(3, 2) of four", RefusedTest::busy, x -> x.tried(3, 2), (long) FrozeFirst.OUTSIDE);
        changesNothing("tried(20, 0) of 20", RefusedTest::atTheBounds, x -> x.tried(20, 0), (long) FrozeFirst.UNKNOWN);
        changesNothing("tried(19, 2) of 20", RefusedTest::atTheBounds, x -> x.tried(19, 2), (long) FrozeFirst.OUTSIDE);
    }

    private static void rowsRefused() {
        for (State state : STATES) {
            for (long row : new long[] {Long.MIN_VALUE, -1, 0, 10000000000L, Long.MAX_VALUE}) {
                changesNothing("row(0, " + row + ")", state, x -> x.row(0, row), (long) FrozeFirst.OUTSIDE);
                changesNothing("row(1, " + row + ")", state, x -> x.row(1, row), (long) FrozeFirst.OUTSIDE);
            }
            changesNothing("row(2, 5)", state, x -> x.row(2, 5), (long) FrozeFirst.UNKNOWN);
        }
    }

    private static void whatOnlyTells() {
        for (State state : STATES) {
            changesNothing("time", state, x -> x.time(0, 9, 2), null);
            changesNothing("at", state, x -> x.at(1, 9, 600, 6), null);
            changesNothing("glass", state, x -> x.glass(1, 0, 3), null);
            changesNothing("first", state, x -> x.first(2, 9, 0), null);
            changesNothing("odds", state, x -> x.odds(2, 2, 1), null);
            changesNothing("gain", state, x -> x.gain(2, 9, 7), null);
            changesNothing("could", state, x -> x.could(2, 9, 2, 2), null);
            changesNothing("any", state, x -> x.any(2, 9), null);
            changesNothing("chance", state, x -> x.chance(40, 40, 1), 1L << 40);
            changesNothing("pairs", state, x -> x.pairs(10, 200), 3L);
            changesNothing("fault", state, FrozeFirst::fault, null);
            changesNothing("tried", state, x -> x.tried(0, 0), null);
            changesNothing("said", state, x -> x.said(3, 1), null);
            changesNothing("ask", state, FrozeFirst::ask, null);
            changesNothing("draw", state, x -> x.draw(9999, 300, 2, 2), null);
            changesNothing("told", state, x -> x.told(20), null);
        }
    }

    /** The looks that this test takes would see each thing that a call could change. */
    private static void theTwoWouldDiffer() {
        seen("START", x -> x.pail(0, 0, 1));
        seen("START of the other", x -> x.pail(1, 0, 1));
        seen("MASS", x -> x.pail(0, 1, 99));
        seen("MASS of the other", x -> x.pail(1, 1, 99));
        seen("ROW", x -> x.row(0, 1));
        seen("ROW of the other", x -> x.row(1, 1));
        for (int which = 0; which <= 10; which++) {
            int one = which;
            seen("set(" + one + ", 2)", x -> x.set(one, 2));
        }
        seen("a sign", x -> x.say('s'));
        seen("signs that go", FrozeFirst::wipe);
        seen("TRIES", FrozeFirst::tries);
        seen("an image", x -> x.image(0));
        seen("an image kept anew", x -> x.image(1));
        seen("an image's return", x -> x.restore(1));
    }

    private static void seen(String what, Deed deed) {
        FrozeFirst one = busy();
        deed.on(one);
        DUE.holds(what + " would be seen", !allAnswers(one).equals(allAnswers(busy())));
    }
}
