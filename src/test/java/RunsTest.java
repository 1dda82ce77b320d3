/** Promises 5 to 7: time, at, glass. The numbers due were worked out by hand from the document. */
public final class RunsTest {
    private static final Due DUE = new Due();

    public static void main(String[] args) {
        frostByRounds();
        needleAtItsDegree();
        halfIsCutDown();
        steamTakesMass();
        steamAndMeltOnlyAboveNought();
        rimeThenMetal();
        onMetalWhenRimeIsNotAtWork();
        turningRoundFourDegrees();
        glassInEachCell();
        glassJustAtNought();
        glassInTheLastRound();
        lastRoundOfAll();
        refusals();
        DUE.end();
    }

    /** SIDE alone: 10 thousandths of 1000, so 10 in a round from nought. */
    private static FrozeFirst sideAlone() {
        FrozeFirst x = new FrozeFirst();
        x.set(1, 10);
        x.set(2, 0);
        x.set(3, 0);
        x.set(4, 0);
        x.set(10, 0);
        x.pail(0, 0, 0);
        return x;
    }

    private static void cells(FrozeFirst x, int b, int round, int... want) {
        for (int cell = 0; cell < want.length; cell++) {
            DUE.due("at(0, " + b + ", " + round + ", " + cell + ")", x.at(0, b, round, cell), want[cell]);
        }
    }

    private static void frostByRounds() {
        FrozeFirst x = sideAlone();
        x.set(8, 1);
        DUE.due("needle at nought", x.time(0, 0, 0), 1);
        // 4 cells give 10 each from round 2 on: 400 stand in round 11.
        DUE.due("FROST is 400 just in round 11", x.time(0, 0, 2), 11);
        DUE.due("FROST in the round of the needle", x.at(0, 0, 1, 6), 0);
        DUE.due("FROST a round later", x.at(0, 0, 2, 6), 40);
        DUE.due("FROST a round ahead of the last", x.at(0, 0, 10, 6), 360);
        DUE.due("FROST in the last round", x.at(0, 0, 11, 6), 400);
        DUE.due("FROST behind the last round", x.at(0, 0, 12, 6), 400);
        DUE.due("FROST far behind it", x.at(0, 0, 600, 6), 400);
        cells(x, 0, 0, 0, 0, 0, 0);
        cells(x, 0, 600, 0, 0, 0, 0);
    }

    private static void needleAtItsDegree() {
        FrozeFirst x = sideAlone();
        x.set(1, 50);
        // 50 in round 1, 47 in round 2, 45 in round 3: -50, -97, -142.
        DUE.due("one degree below", x.time(0, 1, 0), 3);
        cells(x, 1, 2, -97, -97, -97, -97);
        cells(x, 1, 3, 0, 0, 0, 0);
        x.set(0, 20);
        // 100 in round 1: just at the degree.
        DUE.due("just one degree below", x.time(0, 1, 0), 1);
        DUE.due("nought has been read, too", x.time(0, 1, 1), 1);
        x.set(0, 9);
        DUE.due("an air of 9 never gets to 9 by cut quotients", x.time(0, 9, 0), 601);
        DUE.due("then no last drop", x.time(0, 9, 2), 601);
        DUE.due("but the glass reads", x.time(0, 9, 1), 1);
    }

    private static void halfIsCutDown() {
        FrozeFirst x = sideAlone();
        x.set(3, 5);
        x.set(10, 4);
        // -10 and -15 together are -25: cut down -13, the rest -12.
        cells(x, 9, 1, -10, -10, -13, -12);
        // 9, 9, 9 (of 987 by 10) and 14 (of 988 by 15): -19 -19 -22 -26; 1 with 2 is -41, 2 with 3 is -46.
        cells(x, 9, 2, -19, -21, -23, -23);
    }

    private static void steamTakesMass() {
        FrozeFirst x = sideAlone();
        x.set(10, 1);
        x.set(1, 50);
        x.set(0, 40);
        x.set(5, 50);
        x.pail(0, 0, 100);
        cells(x, 4, 0, 10000, 10000, 10000, 10000, 100000, 40, 0);
        // 14000 by 50 is 700; steam 10000 by 50 is 500.
        cells(x, 4, 1, 9300, 9300, 9300, 9300, 99500, 40, 0);
        // 13300 by 50 is 665, of 99500 of 100000 left: 668; steam 465.
        cells(x, 4, 2, 8632, 8632, 8632, 8632, 99035, 40, 0);
        x.pail(0, 1, 10);
        // Of a tenth: ten times 700.
        cells(x, 4, 1, 3000, 3000, 3000, 3000, 10000, 40, 0);
        x.set(1, 0);
        x.pail(0, 1, 11);
        DUE.due("left behind round 1", x.at(0, 4, 1, 4), 10500);
        DUE.due("left behind round 2", x.at(0, 4, 2, 4), 10000);
        DUE.due("left never less than a tenth", x.at(0, 4, 3, 4), 10000);
        x.set(10, 6);
        DUE.due("no steam at work", x.at(0, 4, 3, 4), 11000);
    }

    private static void steamAndMeltOnlyAboveNought() {
        FrozeFirst x = sideAlone();
        x.set(10, 3);
        x.set(0, 40);
        x.set(1, 50);
        x.set(5, 50);
        x.set(6, 50);
        // -200 behind round 1, so a loss reckoned by that would be below nought.
        cells(x, 9, 2, -390, -390, -390, -390, 100000, 40, 0);
    }

    private static void rimeThenMetal() {
        FrozeFirst x = new FrozeFirst();
        x.set(0, 40);
        x.set(1, 10);
        x.set(2, 3);
        x.set(3, 50);
        x.set(4, 1);
        x.set(6, 3);
        x.set(7, 4);
        x.set(10, 2);
        x.pail(0, 0, 100);
        // On rime: 14000 by 11; 3 of the rime melt, one is left.
        cells(x, 0, 1, 9818, 9860, 9860, 9846, 100000, 1, 0);
        // Still on rime: 13846 by 11 is 152; 2 would melt, but no less than 0 is left.
        cells(x, 0, 2, 9639, 9722, 9722, 9694, 100000, 0, 0);
        // On metal: 13694 by 60 is 821.
        cells(x, 0, 3, 9462, 9585, 9585, 8873, 100000, 0, 0);
    }

    private static void onMetalWhenRimeIsNotAtWork() {
        FrozeFirst x = new FrozeFirst();
        x.set(10, 0);
        // 10000 by 12, 4, 4, 16.
        cells(x, 0, 1, 8880, 8960, 8960, 8840, 100000, 40, 0);
        x.set(10, 2);
        x.set(7, 0);
        cells(x, 0, 1, 8880, 8960, 8960, 8840, 100000, 0, 0);
        x.set(7, 1);
        cells(x, 0, 1, 8880, 8960, 8960, 8940, 100000, 0, 0);
    }

    private static void turningRoundFourDegrees() {
        FrozeFirst x = new FrozeFirst();
        x.set(1, 0);
        x.set(2, 50);
        x.set(3, 0);
        x.set(4, 0);
        x.set(0, 40);
        x.set(10, 4);
        x.pail(0, 0, 4);
        // The top one is at 180, farther from 400 than the lower one: it stays on top.
        cells(x, 9, 1, 180, 400, 400, 400);
        x.pail(0, 0, 6);
        // 600 less 230 is 370: 30 off, the lower one 200 off: 485 and 485, then 542 and 543, then 571 and 572.
        cells(x, 9, 1, 485, 542, 571, 572);
        x.set(0, 2);
        x.set(2, 50);
        x.pail(0, 0, 5);
        x.set(10, 0);
        // 500 less 35.
        cells(x, 9, 1, 465, 500, 500, 500);
        x.set(10, 4);
        // 482 and 483 of 965; 491 and 492 of 983; 496 and 496 of 992.
        cells(x, 9, 1, 482, 491, 496, 496);
        // Just as far on both sides: 400 +- 200 does not turn.
        x.set(0, 2);
        x.pail(0, 0, 6);
        x.pail(0, 1, 10);
        // 800 by 50 is 40, of a tenth 400: 600 becomes 200.
        cells(x, 9, 1, 200, 600, 600, 600);
        x.set(2, 0);
        x.set(3, 50);
        cells(x, 9, 1, 600, 600, 600, 200);
    }

    private static void glassInEachCell() {
        FrozeFirst x = sideAlone();
        x.set(2, 50);
        x.set(3, 20);
        x.pail(0, 0, 1);
        // Top 1100 by 60 is 66 (34 left), then 62; sides 11 (89 left), then 10 each, ten rounds in all; lowest 33, 32, 31, 30.
        DUE.due("on top", x.glass(0, 9, 0), 2);
        DUE.due("beneath", x.glass(0, 9, 1), 10);
        DUE.due("third", x.glass(0, 9, 2), 10);
        DUE.due("lowest", x.glass(0, 9, 3), 4);
        for (int cell = 0; cell < 4; cell++) {
            x.set(9, cell);
            DUE.due("time by a glass in " + cell, x.time(0, 9, 1), x.glass(0, 9, cell));
        }
        DUE.due("told place stays", x.told(19), 3);
    }

    private static void glassJustAtNought() {
        FrozeFirst x = sideAlone();
        x.set(1, 50);
        x.set(0, 1);
        x.pail(0, 0, 1);
        x.pail(0, 1, 10);
        // 200 by 50 is 10, of a tenth 100: just nought behind round 1.
        DUE.due("just nought", x.at(0, 9, 1, 1), 0);
        DUE.due("reads there", x.glass(0, 9, 1), 1);
        x.pail(0, 1, 20);
        // 50 in round 1; 150 by 50 is 7, of a fifth 35: 15 left; 115 by 50 is 5, of a fifth 25: -10.
        DUE.due("above nought", x.at(0, 9, 2, 1), 15);
        DUE.due("reads a round later", x.glass(0, 9, 1), 3);
        x.pail(0, 1, 100);
        x.set(0, 32);
        x.set(1, 30);
        // 3300 by 30 is 99: a hundredth of a degree is left.
        DUE.due("one above nought", x.at(0, 9, 1, 1), 1);
        DUE.due("does not read there", x.glass(0, 9, 1), 2);
    }

    /** A place that comes to nought in the very round of the last drop still reads. */
    private static void glassInTheLastRound() {
        FrozeFirst x = sideAlone();
        x.set(0, 40);
        x.set(1, 0);
        x.set(2, 50);
        x.set(8, 2);
        // The top one alone: 200 a round; the needle in round 1, then 800 stand in rounds 2 to 5.
        DUE.due("last drop", x.time(0, 0, 2), 5);
        x.pail(0, 0, 1);
        // 205 in round 1: top at -105: needle, then 800 stand in round 5; SIDE 0: the others stay at 100.
        DUE.due("last drop of a warmer one", x.time(0, 0, 2), 5);
        DUE.due("a place that stays warm", x.glass(0, 0, 1), 601);
        x.set(1, 5);
        // SIDE 5: 100 less 20 (of 4100 by 5), 20 (of 4080), 20, 20, 20: 0 in round 5; top by 55: needle in 1, 220 a round.
        x.set(8, 2);
        DUE.due("last drop with a side", x.time(0, 0, 2), 5);
        DUE.due("the place reads in that very round", x.glass(0, 0, 1), 5);
        x.set(1, 4);
        // SIDE 4: 16 a round: 20 left behind round 5.
        DUE.due("last drop with less side", x.time(0, 0, 2), 5);
        DUE.due("no round comes behind the last drop", x.glass(0, 0, 1), 601);
    }

    private static void lastRoundOfAll() {
        FrozeFirst x = sideAlone();
        x.set(0, 1);
        x.set(1, 10);
        x.set(3, 0);
        x.set(8, 5);
        // 1 a round by each cell from nought: the needle in round 1, 2000 FROST need 500 rounds more.
        DUE.due("2000 by 4 a round", x.time(0, 0, 2), 501);
        x.set(8, 6);
        DUE.due("2400 by 4 a round would need round 601", x.time(0, 0, 2), 601);
        DUE.due("FROST behind round 600", x.at(0, 0, 600, 6), 2396);
        DUE.due("FROST behind round 599", x.at(0, 0, 599, 6), 2392);
        x.set(8, 1);
        x.set(2, 10);
        // The top one gives 2: 5 a round.
        DUE.due("400 by 5 a round", x.time(0, 0, 2), 81);
        x.set(1, 0);
        x.set(2, 10);
        x.set(8, 1);
        DUE.due("400 by 1 a round", x.time(0, 0, 2), 401);
        x.set(3, 20);
        DUE.due("400 by 3 a round", x.time(0, 0, 2), 135);
    }

    private static void refusals() {
        FrozeFirst x = new FrozeFirst();
        int gone = FrozeFirst.GONE;
        for (int far : new int[] {Integer.MIN_VALUE, -1, 1000, Integer.MAX_VALUE}) {
            DUE.due("time of no pail", x.time(far, far, far), FrozeFirst.UNKNOWN);
            DUE.due("time at no degree", x.time(0, far, 0), FrozeFirst.OUTSIDE);
            DUE.due("time by no meaning", x.time(1, 0, far), FrozeFirst.OUTSIDE);
            DUE.due("at of no pail", x.at(far, far, far, far), gone - 1);
            DUE.due("at at no degree", x.at(0, far, 0, 0), gone - 2);
            DUE.due("at behind no round", x.at(0, 0, far, 0), gone - 2);
            DUE.due("at of nothing", x.at(0, 0, 0, far), gone - 2);
            DUE.due("glass in no pail", x.glass(far, far, 0), FrozeFirst.UNKNOWN);
            DUE.due("glass in no cell", x.glass(0, far, far), FrozeFirst.UNKNOWN);
            DUE.due("glass at no degree", x.glass(1, far, 3), FrozeFirst.OUTSIDE);
        }
        DUE.due("time(2, 0, 0)", x.time(2, 0, 0), FrozeFirst.UNKNOWN);
        DUE.due("time(0, 10, 0)", x.time(0, 10, 0), FrozeFirst.OUTSIDE);
        DUE.due("time(0, 0, 3)", x.time(0, 0, 3), FrozeFirst.OUTSIDE);
        DUE.due("at(2, 0, 0, 0)", x.at(2, 0, 0, 0), gone - 1);
        DUE.due("at(0, 10, 0, 0)", x.at(0, 10, 0, 0), gone - 2);
        DUE.due("at(0, 0, 601, 0)", x.at(0, 0, 601, 0), gone - 2);
        DUE.due("at(0, 0, 0, 7)", x.at(0, 0, 0, 7), gone - 2);
        DUE.due("at(0, 9, 600, 6) is answered", x.at(0, 9, 600, 6) < 0 ? 1 : 0, 0);
        DUE.due("glass(2, 0, 0)", x.glass(2, 0, 0), FrozeFirst.UNKNOWN);
        DUE.due("glass(0, 10, 4)", x.glass(0, 10, 4), FrozeFirst.UNKNOWN);
        DUE.due("glass(0, 10, 3)", x.glass(0, 10, 3), FrozeFirst.OUTSIDE);
    }
}
