/** Promises 1 to 4 and 25: a new object, pail, row, set, told. */
public final class PailsTest {
    private static final int[] AT_FIRST = {10, 4, 8, 12, 2, 10, 8, 40, 20, 1, 7};
    private static final int[] LEAST = {1, 0, 0, 0, 0, 0, 0, 0, 1, 0, 0};
    private static final int[] MOST = {40, 50, 50, 50, 50, 50, 50, 99, 80, 3, 7};
    private static final int[] FAR = {Integer.MIN_VALUE, -1000, -1, 1000, Integer.MAX_VALUE};
    private static final Due DUE = new Due();

    public static void main(String[] args) {
        newObject();
        pail();
        row();
        set();
        told();
        DUE.end();
    }

    private static void newObject() {
        FrozeFirst x = new FrozeFirst();
        DUE.due("told(0) of a new object", x.told(0), 0);
        DUE.due("told(1) of a new object", x.told(1), 0);
        DUE.due("told(2) of a new object", x.told(2), 90);
        DUE.due("told(3) of a new object", x.told(3), 20);
        DUE.due("told(4) of a new object", x.told(4), 100);
        DUE.due("told(5) of a new object", x.told(5), 100);
        for (int which = 0; which <= 10; which++) {
            DUE.due("told(10 + " + which + ") of a new object", x.told(10 + which), AT_FIRST[which]);
        }
        DUE.due("row(0, 1) of a new object", x.row(0, 1), 123210000L);
        DUE.due("row(1, 1) of a new object", x.row(1, 1), 123210000L);
        DUE.due("tried(0, 0) of a new object", x.tried(0, 0), FrozeFirst.UNKNOWN);
        DUE.due("restore(0) of a new object", x.restore(0), FrozeFirst.STATE);
        DUE.due("restore(1) of a new object", x.restore(1), FrozeFirst.STATE);
        FrozeFirst y = new FrozeFirst();
        y.pail(0, 0, 1);
        y.set(0, 1);
        DUE.due("another object's START", x.told(2), 90);
        DUE.due("another object's AIR", x.told(10), 10);
    }

    private static void pail() {
        FrozeFirst x = new FrozeFirst();
        DUE.due("pail(0, 0, 0)", x.pail(0, 0, 0), 90);
        DUE.due("pail(0, 0, 100)", x.pail(0, 0, 100), 0);
        DUE.due("pail(1, 0, 99)", x.pail(1, 0, 99), 20);
        DUE.due("pail(0, 1, 10)", x.pail(0, 1, 10), 100);
        DUE.due("pail(0, 1, 100)", x.pail(0, 1, 100), 10);
        DUE.due("pail(1, 1, 55)", x.pail(1, 1, 55), 100);
        for (int far : FAR) {
            DUE.due("pail(" + far + ", 0, 1)", x.pail(far, 0, 1), FrozeFirst.UNKNOWN);
            DUE.due("pail(0, " + far + ", 50)", x.pail(0, far, 50), FrozeFirst.OUTSIDE);
            DUE.due("pail(0, 0, " + far + ")", x.pail(0, 0, far), FrozeFirst.OUTSIDE);
            DUE.due("pail(1, 1, " + far + ")", x.pail(1, 1, far), FrozeFirst.OUTSIDE);
        }
        DUE.due("pail(2, 2, 1000): UNKNOWN is ahead", x.pail(2, 2, 1000), FrozeFirst.UNKNOWN);
        DUE.due("pail(0, 2, 50)", x.pail(0, 2, 50), FrozeFirst.OUTSIDE);
        DUE.due("pail(0, 0, 101)", x.pail(0, 0, 101), FrozeFirst.OUTSIDE);
        DUE.due("pail(0, 1, 9)", x.pail(0, 1, 9), FrozeFirst.OUTSIDE);
        DUE.due("pail(0, 1, 101)", x.pail(0, 1, 101), FrozeFirst.OUTSIDE);
        DUE.due("START of the hot one behind refusals", x.told(2), 100);
        DUE.due("START of the cold one behind refusals", x.told(3), 99);
        DUE.due("MASS of the hot one behind refusals", x.told(4), 100);
        DUE.due("MASS of the cold one behind refusals", x.told(5), 55);
    }

    private static void row() {
        FrozeFirst x = new FrozeFirst();
        DUE.due("row(0, 9999999999)", x.row(0, 9999999999L), 123210000L);
        DUE.due("row(1, 1)", x.row(1, 1L), 123210000L);
        DUE.due("row(2, 1)", x.row(2, 1L), FrozeFirst.UNKNOWN);
        DUE.due("row(-1, 0): UNKNOWN is ahead", x.row(-1, 0L), FrozeFirst.UNKNOWN);
        DUE.due("row(0, 0)", x.row(0, 0L), FrozeFirst.OUTSIDE);
        DUE.due("row(0, -1)", x.row(0, -1L), FrozeFirst.OUTSIDE);
        DUE.due("row(0, 10000000000)", x.row(0, 10000000000L), FrozeFirst.OUTSIDE);
        DUE.due("row(0, least long)", x.row(0, Long.MIN_VALUE), FrozeFirst.OUTSIDE);
        DUE.due("row(0, greatest long)", x.row(0, Long.MAX_VALUE), FrozeFirst.OUTSIDE);
        DUE.due("row(0, ..) behind refusals", x.row(0, 5L), 9999999999L);
        DUE.due("row(1, ..) behind refusals", x.row(1, 5L), 1L);
    }

    private static void set() {
        FrozeFirst x = new FrozeFirst();
        for (int which = 0; which <= 10; which++) {
            String call = "set(" + which + ", ";
            DUE.due(call + "least)", x.set(which, LEAST[which]), AT_FIRST[which]);
            DUE.due(call + "least - 1)", x.set(which, LEAST[which] - 1), FrozeFirst.OUTSIDE);
            DUE.due(call + "most)", x.set(which, MOST[which]), LEAST[which]);
            DUE.due(call + "most + 1)", x.set(which, MOST[which] + 1), FrozeFirst.OUTSIDE);
            for (int far : FAR) {
                DUE.due(call + far + ")", x.set(which, far), FrozeFirst.OUTSIDE);
            }
            DUE.due("told behind " + call + "..)", x.told(10 + which), MOST[which]);
        }
        for (int far : FAR) {
            DUE.due("set(" + far + ", 1)", x.set(far, 1), FrozeFirst.OUTSIDE);
        }
        DUE.due("set(11, 1)", x.set(11, 1), FrozeFirst.OUTSIDE);
    }

    private static void told() {
        FrozeFirst x = new FrozeFirst();
        x.pail(0, 0, 11);
        x.pail(1, 0, 12);
        x.pail(0, 1, 13);
        x.pail(1, 1, 14);
        x.say('-');
        x.say('>');
        DUE.due("told(0)", x.told(0), 2);
        x.tries();
        DUE.due("told(0) behind tries()", x.told(0), 0);
        DUE.due("told(1)", x.told(1), 1);
        DUE.due("told(2)", x.told(2), 11);
        DUE.due("told(3)", x.told(3), 12);
        DUE.due("told(4)", x.told(4), 13);
        DUE.due("told(5)", x.told(5), 14);
        for (int what : new int[] {-1, 6, 7, 8, 9, 21, Integer.MIN_VALUE, Integer.MAX_VALUE}) {
            DUE.due("told(" + what + ")", x.told(what), FrozeFirst.OUTSIDE);
        }
    }
}
