/** Promises 22 to 24: draw, image, restore. */
public final class DrawsAndImagesTest {
    private static final Due DUE = new Due();
    private static final int[] FAR = {Integer.MIN_VALUE, -1, 10000, Integer.MAX_VALUE};

    public static void main(String[] args) {
        drawOnePair();
        drawAll();
        drawRefusals();
        image();
        imagesAreApart();
        imageOfTries();
        imageRefusals();
        DUE.end();
    }

    private static void drawOnePair() {
        FrozeFirst x = new FrozeFirst();
        x.set(1, 50);
        x.set(2, 0);
        x.set(3, 0);
        x.set(10, 0);
        x.pail(0, 0, 0);
        x.pail(1, 0, 0);
        // From 0: 74 for the hot one, 5624 for the cold one. By three: 2 and 2. By two: 0 and 0.
        x.row(0, 1100000000L);
        x.row(1, 1110000000L);
        // The hot one at 0 degrees (0 of 2), the cold one at 2 degrees (2 of 3).
        DUE.due("draw(0, 1, 0, 0)", x.draw(0, 1, 0, 0), 1);
        DUE.due("draw(0, 1, 0, 1)", x.draw(0, 1, 0, 1), 0);
        DUE.due("draw(0, 1, 0, 2)", x.draw(0, 1, 0, 2), 0);
        x.row(0, 1200000000L);
        x.row(1, 1100000000L);
        // The hot one at 1 degree (2 of 3), the cold one at 0 degrees (0 of 2).
        DUE.due("draw(0, 1, 0, 1)", x.draw(0, 1, 0, 1), 1);
        x.row(0, 2100000000L);
        x.row(1, 2100000000L);
        // Both at 1 degree: number 2 of 3.
        DUE.due("draw(0, 1, 0, 2)", x.draw(0, 1, 0, 2), 1);
        x.row(0, 3000000000L);
        x.row(1, 2100000000L);
        DUE.due("number 2 of three at 0 degrees", x.draw(0, 1, 0, 0), 1);
        x.row(0, 1000000000L);
        x.row(1, 100000000L);
        DUE.due("rows of one digit 1", x.draw(77, 300, 0, 0), 300);
        x.row(1, 1000000000L);
        DUE.due("rows alike of one digit 1", x.draw(77, 300, 0, 2), 300);
    }

    private static void drawAll() {
        for (int seed : new int[] {0, 1, 5000, 9999}) {
            for (int meaning = 0; meaning < 3; meaning++) {
                // An object answers 512 calls: one of its own for each seed and meaning.
                FrozeFirst x = new FrozeFirst();
                x.row(0, 9081726354L);
                x.row(1, 1112223339L);
                int[] want = drawnFirsts(x, seed, 300, meaning);
                for (int first = 0; first < 3; first++) {
                    String call = "draw(" + seed + ", 300, " + meaning + ", " + first + ")";
                    DUE.due(call, x.draw(seed, 300, meaning, first), want[first]);
                }
            }
        }
    }

    private static int[] drawnFirsts(FrozeFirst x, int seed, int n, int meaning) {
        StringBuilder hotNumbers = spread("9081726354");
        StringBuilder coldNumbers = spread("1112223339");
        long drawn = seed;
        int[] firsts = new int[3];
        for (int i = 0; i < n; i++) {
            drawn = (drawn * 75 + 74) % 65537;
            int hotAt = hotNumbers.charAt((int) (drawn % hotNumbers.length())) - '0';
            drawn = (drawn * 75 + 74) % 65537;
            int coldAt = coldNumbers.charAt((int) (drawn % coldNumbers.length())) - '0';
            firsts[x.first(meaning, hotAt, coldAt)]++;
        }
        return firsts;
    }

    private static StringBuilder spread(String row) {
        StringBuilder numbers = new StringBuilder();
        for (int b = 0; b < 10; b++) {
            for (int i = row.charAt(b); i > '0'; i--) {
                numbers.append(b);
            }
        }
        return numbers;
    }

    private static void drawRefusals() {
        FrozeFirst x = new FrozeFirst();
        for (int far : FAR) {
            DUE.due("draw(" + far + ", 1, 0, 0)", x.draw(far, 1, 0, 0), FrozeFirst.OUTSIDE);
            DUE.due("draw(0, " + far + ", 0, 0)", x.draw(0, far, 0, 0), FrozeFirst.OUTSIDE);
            DUE.due("draw(0, 1, " + far + ", 0)", x.draw(0, 1, far, 0), FrozeFirst.OUTSIDE);
            DUE.due("draw(0, 1, 0, " + far + ")", x.draw(0, 1, 0, far), FrozeFirst.OUTSIDE);
        }
        DUE.due("draw(0, 0, 0, 0)", x.draw(0, 0, 0, 0), FrozeFirst.OUTSIDE);
        DUE.due("draw(0, 301, 0, 0)", x.draw(0, 301, 0, 0), FrozeFirst.OUTSIDE);
        DUE.due("draw(0, 1, 3, 0)", x.draw(0, 1, 3, 0), FrozeFirst.OUTSIDE);
        DUE.due("draw(0, 1, 0, 3)", x.draw(0, 1, 0, 3), FrozeFirst.OUTSIDE);
        DUE.holds("draw(9999, 300, 2, 2) is answered", x.draw(9999, 300, 2, 2) >= 0);
    }

    /** All that can be told is moved away from what it is. */
    private static void moveAll(FrozeFirst x, int by) {
        x.pail(0, 0, 30 + by);
        x.pail(1, 0, 40 + by);
        x.pail(0, 1, 50 + by);
        x.pail(1, 1, 60 + by);
        x.row(0, 70 + by);
        x.row(1, 80 + by);
        for (int which = 0; which <= 10; which++) {
            x.set(which, which >= 9 ? by : which + 10 + by);
        }
    }

    private static void movedDue(FrozeFirst x, int by) {
        DUE.due("START of the hot one", x.told(2), 30 + by);
        DUE.due("START of the cold one", x.told(3), 40 + by);
        DUE.due("MASS of the hot one", x.told(4), 50 + by);
        DUE.due("MASS of the cold one", x.told(5), 60 + by);
        DUE.due("ROW of the hot one", x.row(0, 70 + by), 70 + by);
        DUE.due("ROW of the cold one", x.row(1, 80 + by), 80 + by);
        for (int which = 0; which <= 10; which++) {
            DUE.due("told(10 + " + which + ")", x.told(10 + which), which >= 9 ? by : which + 10 + by);
        }
    }

    private static void image() {
        FrozeFirst x = new FrozeFirst();
        moveAll(x, 2);
        DUE.due("image(0)", x.image(0), 1);
        movedDue(x, 2);
        moveAll(x, 3);
        movedDue(x, 3);
        DUE.due("restore(0)", x.restore(0), 1);
        movedDue(x, 2);
        moveAll(x, 1);
        DUE.due("restore(0) once more", x.restore(0), 1);
        movedDue(x, 2);
        moveAll(x, 3);
        DUE.due("image(0) anew", x.image(0), 1);
        moveAll(x, 1);
        x.restore(0);
        movedDue(x, 3);
    }

    private static void imagesAreApart() {
        FrozeFirst x = new FrozeFirst();
        moveAll(x, 1);
        x.image(0);
        DUE.due("the other one was not kept", x.restore(1), FrozeFirst.STATE);
        moveAll(x, 2);
        x.image(1);
        moveAll(x, 3);
        x.restore(0);
        movedDue(x, 1);
        DUE.due("restoring one leaves the other kept", x.restore(1), 1);
        movedDue(x, 2);
    }

    private static void sayAll(FrozeFirst x, String text) {
        for (int i = 0; i < text.length(); i++) {
            x.say(text.charAt(i));
        }
    }

    private static void imageOfTries() {
        FrozeFirst x = new FrozeFirst();
        sayAll(x, "s>;r<;tn=");
        x.tries();
        sayAll(x, "abc");
        x.image(1);
        DUE.due("signs stay at image()", x.told(0), 3);
        x.wipe();
        sayAll(x, "->");
        x.tries();
        sayAll(x, "s<");
        DUE.due("restore(1)", x.restore(1), 1);
        DUE.due("TRIES are back", x.told(1), 3);
        DUE.due("tried(0, 0)", x.tried(0, 0), 1);
        DUE.due("tried(1, 1)", x.tried(1, 1), 1);
        DUE.due("tried(2, 0)", x.tried(2, 0), 12);
        DUE.due("tried(2, 1)", x.tried(2, 1), 2);
        DUE.due("signs are not in it", x.told(0), 2);
        DUE.due("and stay as said", x.tries(), 1);
        DUE.due("tried(0, 1)", x.tried(0, 1), 1);
    }

    private static void imageRefusals() {
        FrozeFirst x = new FrozeFirst();
        for (int far : new int[] {Integer.MIN_VALUE, -1, 2, Integer.MAX_VALUE}) {
            DUE.due("image(" + far + ")", x.image(far), FrozeFirst.OUTSIDE);
            DUE.due("restore(" + far + ")", x.restore(far), FrozeFirst.OUTSIDE);
        }
        DUE.due("restore(0) of none", x.restore(0), FrozeFirst.STATE);
        DUE.due("restore(1) of none", x.restore(1), FrozeFirst.STATE);
    }
}
