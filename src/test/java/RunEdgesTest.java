/**
 * The edges of a RUN (Terms, 2; promises 5 to 7), a test for each sentence that names one: at the edge, a step on this
 * side and a step on that. The numbers due were worked out by hand.
 */
public final class RunEdgesTest {
    private static final Due DUE = new Due();
    private static final int AIR = 0;
    private static final int SIDE = 1;
    private static final int TOP = 2;
    private static final int METAL = 3;
    private static final int ON_RIME = 4;
    private static final int STEAM = 5;
    private static final int MELT = 6;
    private static final int RIME = 7;
    private static final int ICE = 8;
    private static final int CAUSES = 10;
    private static final int LEFT = 4;
    private static final int RIME_LEFT = 5;
    private static final int FROST = 6;

    public static void main(String[] args) {
        cellsAtHundredTimesStart();
        leftIsThousandTimesMass();
        ratesAtTheirBounds();
        airAtItsBounds();
        lossIsCut();
        lossOfWhatIsLeftIsCut();
        lossIsByWhatWasLeft();
        onRimeIfSomeIsLeft();
        onRimeIfItIsAtWork();
        steamIfAboveNought();
        steamIsCut();
        noLessThanTenthIsLeft();
        meltIfAboveNought();
        meltIsCut();
        rimeToNoLessThanNought();
        turnsIfTheLowerIsFarther();
        turnsAtFourDegrees();
        turnsInOrder();
        halfIsCutDown();
        beginsAtItsDegree();
        beginsAtNought();
        beginsAtNine();
        beginsBySomeCell();
        beginsOnce();
        frostFromTheNextRoundOn();
        lastDropAtEnoughFrost();
        iceAtItsBounds();
        glassAtNought();
        glassInEachCell();
        glassOfARunThatEnds();
        needleInTheLastRounds();
        glassInTheLastRounds();
        lastDropInTheLastRounds();
        neverComes();
        behindARound();
        behindTheEndOfARun();
        DUE.end();
    }

    /** Nothing is lost anywhere, no cause is at work; the hot one at the told degrees. */
    private static FrozeFirst still(int start) {
        FrozeFirst x = new FrozeFirst();
        for (int which = SIDE; which <= ON_RIME; which++) x.set(which, 0);
        x.set(CAUSES, 0);
        x.pail(0, 0, start);
        return x;
    }

    private static FrozeFirst with(FrozeFirst x, int... whichAndValue) {
        for (int i = 0; i + 1 < whichAndValue.length; i += 2) {
            int was = x.set(whichAndValue[i], whichAndValue[i + 1]);
            DUE.holds("set(" + whichAndValue[i] + ", " + whichAndValue[i + 1] + ") is taken", was >= 0);
        }
        return x;
    }

    private static FrozeFirst mass(FrozeFirst x, int mass) {
        x.pail(0, 1, mass);
        return x;
    }

    private static void cells(FrozeFirst x, int b, int round, int... want) {
        for (int cell = 0; cell < 4; cell++) {
            DUE.due("at(0, " + b + ", " + round + ", " + cell + ")", x.at(0, b, round, cell), want[cell]);
        }
    }

    private static void shows(FrozeFirst x, int round, int what, int want) {
        DUE.due("at(0, 9, " + round + ", " + what + ")", x.at(0, 9, round, what), want);
    }

    /** "all four CELLS at 100 times START". */
    private static void cellsAtHundredTimesStart() {
        for (int start : new int[] {0, 1, 99, 100}) {
            int warmth = 100 * start;
            cells(still(start), 9, 0, warmth, warmth, warmth, warmth);
            cells(still(start), 9, 600, warmth, warmth, warmth, warmth);
        }
    }

    /** "what is left of it: 1000 times MASS". */
    private static void leftIsThousandTimesMass() {
        for (int mass : new int[] {10, 11, 99, 100}) {
            shows(mass(still(0), mass), 0, LEFT, 1000 * mass);
            shows(mass(still(0), mass), 600, LEFT, 1000 * mass);
        }
    }

    /** SIDE, TOP, METAL, on RIME (0 to 50): from nought in an air of 10, a thousandth is one hundredth of a degree. */
    private static void ratesAtTheirBounds() {
        for (int rate : new int[] {0, 1, 49, 50}) {
            cells(with(still(0), SIDE, rate), 9, 1, -rate, -rate, -rate, -rate);
            cells(with(still(0), TOP, rate), 9, 1, -rate, 0, 0, 0);
            cells(with(still(0), METAL, rate), 9, 1, 0, 0, 0, -rate);
            cells(with(still(0), ON_RIME, rate, CAUSES, 2), 9, 1, 0, 0, 0, -rate);
            cells(with(still(0), SIDE, 50, TOP, rate), 9, 1, -50 - rate, -50, -50, -50);
            cells(with(still(0), SIDE, 50, METAL, rate), 9, 1, -50, -50, -50, -50 - rate);
            cells(with(still(0), SIDE, 50, ON_RIME, rate, CAUSES, 2), 9, 1, -50, -50, -50, -50 - rate);
        }
    }

    /** AIR (1 to 40): 100 times AIR by 50 thousandths. */
    private static void airAtItsBounds() {
        cells(with(still(0), SIDE, 50, AIR, 1), 9, 1, -5, -5, -5, -5);
        cells(with(still(0), SIDE, 50, AIR, 2), 9, 1, -10, -10, -10, -10);
        cells(with(still(0), SIDE, 50, AIR, 39), 9, 1, -195, -195, -195, -195);
        cells(with(still(0), SIDE, 50, AIR, 40), 9, 1, -200, -200, -200, -200);
    }

    /** "Quotients are cut towards 0": 900, 1000 and 1900, 2000 by 1 of 1000. */
    private static void lossIsCut() {
        cells(with(still(0), SIDE, 1, AIR, 9), 9, 1, 0, 0, 0, 0);
        cells(with(still(0), SIDE, 1, AIR, 10), 9, 1, -1, -1, -1, -1);
        cells(with(still(0), SIDE, 1, AIR, 19), 9, 1, -1, -1, -1, -1);
        cells(with(still(0), SIDE, 1, AIR, 20), 9, 1, -2, -2, -2, -2);
        // 999 by 1 of 1000 is nought: from -1 on nothing more is lost.
        cells(with(still(0), SIDE, 1, AIR, 10), 9, 600, -1, -1, -1, -1);
    }

    /** "that times 100000 by what is left": 1 by 0.34 is 2, by 0.33 is 3; 1.9 is cut ahead of that. */
    private static void lossOfWhatIsLeftIsCut() {
        cells(mass(with(still(0), SIDE, 1, AIR, 10), 34), 9, 1, -2, -2, -2, -2);
        cells(mass(with(still(0), SIDE, 1, AIR, 10), 33), 9, 1, -3, -3, -3, -3);
        cells(mass(with(still(0), SIDE, 1, AIR, 10), 51), 9, 1, -1, -1, -1, -1);
        cells(mass(with(still(0), SIDE, 1, AIR, 10), 50), 9, 1, -2, -2, -2, -2);
        cells(mass(with(still(0), SIDE, 1, AIR, 19), 10), 9, 1, -10, -10, -10, -10);
        // 12500 by 80 and by 50 of 1000 are 1000 and 625; by 0.11 they are 9090.9 and 5681.8.
        cells(mass(with(still(100), SIDE, 50, TOP, 30, AIR, 25), 11), 9, 1, 910, 4319, 4319, 4319);
        // All of the dearest: 14000 by 100 of 1000, ten times that: just down to the air.
        cells(mass(with(still(100), SIDE, 50, TOP, 50, AIR, 40), 10), 9, 1, 0, 3000, 3000, 3000);
        DUE.due("no colder than the air", mass(with(still(100), SIDE, 50, TOP, 50, AIR, 8), 10).at(0, 9, 1, 0), -800);
    }

    /** "by what they are at its beginning": the steam of a round counts from the next one on. */
    private static void lossIsByWhatWasLeft() {
        FrozeFirst x = mass(with(still(100), SIDE, 1, STEAM, 50, CAUSES, 1), 11);
        // 11000 by 1 of 1000 is 11: by 0.11 it is 100, by 0.105 it would be 104. Then 10900: 10 by 0.105 is 95.
        cells(x, 9, 1, 9900, 9900, 9900, 9900);
        shows(x, 1, LEFT, 10500);
        cells(x, 9, 2, 9805, 9805, 9805, 9805);
        // 9900 by 50 of 1000: the warmth at the beginning; 495 of 10500.
        shows(x, 2, LEFT, 10005);
        shows(x, 3, LEFT, 10000);
    }

    /** "or on RIME, if .. some is left": RIME 0, 1, 2 (and 99); 10000 by 10 of 10000 melts 10 in a round. */
    private static void onRimeIfSomeIsLeft() {
        int[] rimes = {0, 1, 2, 10, 11, 99};
        // How many rounds stand on rime: 10 go in a round.
        int[] rounds = {0, 1, 1, 1, 2, 10};
        for (int i = 0; i < rimes.length; i++) {
            FrozeFirst x = with(still(100), METAL, 50, ON_RIME, 0, MELT, 10, RIME, rimes[i], CAUSES, 2);
            int stand = rounds[i];
            // The loss on metal: 11000 by 50 of 1000.
            DUE.due("on rime " + rimes[i], x.at(0, 9, stand, 3), 10000);
            DUE.due("on metal behind rime " + rimes[i], x.at(0, 9, stand + 1, 3), 10000 - 550);
            shows(x, 0, RIME_LEFT, rimes[i]);
            shows(x, stand, RIME_LEFT, 0);
            if (stand > 0) shows(x, stand - 1, RIME_LEFT, rimes[i] - 10 * (stand - 1));
        }
    }

    /** "if RIME is at work": bit 2 of the CAUSES alone says so; what is there stays, if it is not. */
    private static void onRimeIfItIsAtWork() {
        for (int causes = 0; causes <= 3; causes++) {
            FrozeFirst x = with(still(100), METAL, 50, ON_RIME, 1, MELT, 10, CAUSES, causes, STEAM, 0);
            boolean atWork = causes >= 2;
            DUE.due("lowest by causes " + causes, x.at(0, 9, 1, 3), atWork ? 10000 - 11 : 10000 - 550);
            shows(x, 1, RIME_LEFT, atWork ? 30 : 40);
            shows(x, 600, RIME_LEFT, atWork ? 0 : 40);
        }
    }

    /** "if STEAM is at work and the top CELL was above 0". */
    private static void steamIfAboveNought() {
        // At nought nothing goes off, at 100 (by 50 of 1000) 5 in a round.
        shows(with(still(0), STEAM, 50, CAUSES, 1), 600, LEFT, 100000);
        shows(with(still(1), STEAM, 50, CAUSES, 1), 600, LEFT, 97000);
        shows(with(still(1), STEAM, 50, CAUSES, 6), 600, LEFT, 100000);
        // 100 less 200 (1000 by 50 of a quarter): what was above goes off yet; then from -100 on nothing, nor comes back.
        FrozeFirst x = mass(with(still(1), STEAM, 50, TOP, 50, AIR, 9, CAUSES, 1), 25);
        DUE.due("above at its beginning", x.at(0, 9, 1, 0), -100);
        shows(x, 1, LEFT, 24995);
        shows(x, 2, LEFT, 24995);
        shows(x, 600, LEFT, 24995);
        // By the top one alone: the others are above.
        x = with(still(1), STEAM, 50, TOP, 50, AIR, 40, CAUSES, 1);
        cells(x, 9, 1, -105, 100, 100, 100);
        shows(x, 1, LEFT, 99995);
        shows(x, 2, LEFT, 99995);
    }

    /** What goes off is cut: 100 by 9 of 1000 is nought, by 10 it is 1, by 19 it is 1, by 20 it is 2. */
    private static void steamIsCut() {
        shows(with(still(1), STEAM, 0, CAUSES, 1), 1, LEFT, 100000);
        shows(with(still(1), STEAM, 9, CAUSES, 1), 1, LEFT, 100000);
        shows(with(still(1), STEAM, 10, CAUSES, 1), 1, LEFT, 99999);
        shows(with(still(1), STEAM, 19, CAUSES, 1), 1, LEFT, 99999);
        shows(with(still(1), STEAM, 20, CAUSES, 1), 1, LEFT, 99998);
        shows(with(still(100), STEAM, 50, CAUSES, 1), 1, LEFT, 99500);
    }

    /** "to no less than 10000": just there, one more, one less. */
    private static void noLessThanTenthIsLeft() {
        // 500 in a round: 10500, 10000.
        FrozeFirst x = mass(with(still(100), STEAM, 50, CAUSES, 1), 11);
        shows(x, 1, LEFT, 10500);
        shows(x, 2, LEFT, 10000);
        shows(x, 3, LEFT, 10000);
        // 37 in a round: 27 of them are 999.
        x = mass(with(still(10), STEAM, 37, CAUSES, 1), 11);
        shows(x, 27, LEFT, 10001);
        shows(x, 28, LEFT, 10000);
        // 13 in a round: 77 of them are 1001.
        x = mass(with(still(10), STEAM, 13, CAUSES, 1), 11);
        shows(x, 76, LEFT, 10012);
        shows(x, 77, LEFT, 10000);
        // The least MASS has no steam to give.
        x = mass(with(still(100), STEAM, 50, CAUSES, 1), 10);
        shows(x, 1, LEFT, 10000);
        shows(x, 600, LEFT, 10000);
    }

    /** "RIME is at work, some is left and the lowest CELL was above 0". */
    private static void meltIfAboveNought() {
        shows(with(still(0), MELT, 50, CAUSES, 2), 600, RIME_LEFT, 40);
        // 200 by 50 of 10000 is 1 in a round.
        shows(with(still(2), MELT, 50, CAUSES, 2), 1, RIME_LEFT, 39);
        shows(with(still(2), MELT, 50, CAUSES, 2), 39, RIME_LEFT, 1);
        shows(with(still(2), MELT, 50, CAUSES, 2), 40, RIME_LEFT, 0);
        shows(with(still(2), MELT, 50, CAUSES, 2), 41, RIME_LEFT, 0);
        // 200 less 1000 (2200 by 45 is 99, of a tenth 990): it melts by what was above; then nothing, nor comes back.
        FrozeFirst x = mass(with(still(2), MELT, 50, ON_RIME, 45, AIR, 20, CAUSES, 2), 10);
        DUE.due("above at its beginning", x.at(0, 9, 1, 3), -790);
        shows(x, 1, RIME_LEFT, 39);
        shows(x, 2, RIME_LEFT, 39);
        shows(x, 600, RIME_LEFT, 39);
        // By the lowest one alone: the top one is below.
        x = with(still(2), MELT, 50, TOP, 50, AIR, 40, CAUSES, 2);
        // 4200 by 50 of 1000 is 210, then 3990 by it 199.
        cells(x, 9, 2, -209, 200, 200, 200);
        shows(x, 3, RIME_LEFT, 37);
    }

    /** What melts is cut: 100 by 50 of 10000 is nought; 10000 by 1 of it is 1; by 0 nothing. */
    private static void meltIsCut() {
        shows(with(still(1), MELT, 50, CAUSES, 2), 600, RIME_LEFT, 40);
        shows(with(still(2), MELT, 49, CAUSES, 2), 600, RIME_LEFT, 40);
        shows(with(still(100), MELT, 1, CAUSES, 2), 1, RIME_LEFT, 39);
        shows(with(still(99), MELT, 1, CAUSES, 2), 600, RIME_LEFT, 40);
        shows(with(still(100), MELT, 0, CAUSES, 2), 600, RIME_LEFT, 40);
        shows(with(still(100), MELT, 50, RIME, 99, CAUSES, 2), 1, RIME_LEFT, 49);
        // 400 less 97 (3900 by 25 of 1000) is 303: by 33 that is 9999 of 10000.
        FrozeFirst x = with(still(4), AIR, 35, ON_RIME, 25, MELT, 33, CAUSES, 2);
        DUE.due("the lowest one", x.at(0, 9, 1, 3), 303);
        shows(x, 1, RIME_LEFT, 39);
        shows(x, 2, RIME_LEFT, 39);
    }

    /** "to no less than 0": MELT in a round at 100 degrees; one is left, just none, one less than none. */
    private static void rimeToNoLessThanNought() {
        shows(with(still(100), MELT, 39, CAUSES, 2), 1, RIME_LEFT, 1);
        shows(with(still(100), MELT, 40, CAUSES, 2), 1, RIME_LEFT, 0);
        shows(with(still(100), MELT, 41, CAUSES, 2), 1, RIME_LEFT, 0);
        shows(with(still(100), MELT, 50, RIME, 0, CAUSES, 2), 1, RIME_LEFT, 0);
        shows(with(still(100), MELT, 50, RIME, 1, CAUSES, 2), 1, RIME_LEFT, 0);
        shows(with(still(100), MELT, 50, CAUSES, 2), 600, RIME_LEFT, 0);
    }

    /** "if the lower one is farther from 400 than the upper one": 35 to 35, 34 to 33, 34 to 35; 1400 to be lost of. */
    private static void turnsIfTheLowerIsFarther() {
        FrozeFirst x = with(still(5), AIR, 9, CAUSES, 4);
        cells(with(x, SIDE, 47, TOP, 50), 9, 1, 365, 435, 435, 435);
        cells(with(x, SIDE, 48, TOP, 48), 9, 1, 366, 433, 433, 433);
        // 801: 400 and 401; 836: 418 and 418; 853: 426 and 427.
        cells(with(x, SIDE, 47, TOP, 49), 9, 1, 400, 418, 426, 427);
        cells(with(x, CAUSES, 3, STEAM, 0, RIME, 0), 9, 1, 366, 435, 435, 435);
    }

    /** At 400 just, one below is farther; and one above too. */
    private static void turnsAtFourDegrees() {
        // 1400 by 1 of 1000: the lowest one at 399, above it 400.
        cells(with(still(4), METAL, 1, CAUSES, 4), 9, 1, 400, 400, 399, 400);
        cells(with(still(4), METAL, 1, CAUSES, 3, RIME, 0, STEAM, 0), 9, 1, 400, 400, 400, 399);
        // The top one at 399 is the farther one: it stays.
        cells(with(still(4), TOP, 1, CAUSES, 4), 9, 1, 399, 400, 400, 400);
        // 500 less 100 (2000 by 50 of 1000): the top one at 400, the lower ones at 500: 450, 475, 487 and 488.
        cells(with(still(5), TOP, 50, AIR, 15, CAUSES, 4), 9, 1, 450, 475, 487, 488);
        // Nothing to turn: all are alike.
        cells(with(still(5), CAUSES, 4), 9, 600, 500, 500, 500, 500);
    }

    /** "for CELLS 0 and 1, 1 and 2, 2 and 3 in order": what the lowest gives gets no farther up in one round. */
    private static void turnsInOrder() {
        // 400 less 70 (1400 by 50 of 1000): 330 and 400: 365 and 365.
        FrozeFirst x = with(still(4), METAL, 50, CAUSES, 4);
        cells(x, 9, 1, 400, 400, 365, 365);
        // 365 less 68 is 297. 400 and 365: 382 and 383; then 383 and 297: 340 and 340.
        cells(x, 9, 2, 400, 382, 340, 340);
        // 340 less 67 is 273. 400 and 382: 391 and 391; 391 and 340: 365 and 366; 366 and 273: 319 and 320.
        cells(x, 9, 3, 391, 365, 319, 320);
    }

    /** "half of both together (cut down), the lower one the rest": odd ones above and below nought. */
    private static void halfIsCutDown() {
        // 799 is cut to 399, above; -1 and 0 are cut to -1, below.
        cells(with(still(4), METAL, 1, CAUSES, 4), 9, 1, 400, 400, 399, 400);
        cells(with(still(0), METAL, 1, CAUSES, 4), 9, 1, 0, 0, -1, 0);
        cells(with(still(0), METAL, 2, CAUSES, 4), 9, 1, 0, 0, -1, -1);
        cells(with(still(0), METAL, 3, CAUSES, 4), 9, 1, 0, 0, -2, -1);
    }

    /** "some CELL is at -100 times b or less": -99, -100, -101 by one degree. */
    private static void beginsAtItsDegree() {
        // AIR by SIDE by 10: 990, 1000, 1012.
        FrozeFirst x = with(still(0), AIR, 33, SIDE, 30);
        DUE.due("at -99", x.time(0, 1, 0), 2);
        cells(x, 1, 1, -99, -99, -99, -99);
        x = with(still(0), AIR, 20, SIDE, 50);
        DUE.due("at -100", x.time(0, 1, 0), 1);
        cells(x, 1, 1, 0, 0, 0, 0);
        DUE.due("at -100 by two degrees", x.time(0, 2, 0), 3);
        cells(x, 2, 1, -100, -100, -100, -100);
        x = with(still(0), AIR, 22, SIDE, 46);
        DUE.due("at -101", x.time(0, 1, 0), 1);
        cells(x, 1, 1, 0, 0, 0, 0);
    }

    /** By no degree below nought (b 0): 1, 0, -1. */
    private static void beginsAtNought() {
        FrozeFirst x = with(still(1), AIR, 32, SIDE, 30);
        DUE.due("at 1", x.time(0, 0, 0), 2);
        cells(x, 0, 1, 1, 1, 1, 1);
        x = with(still(1), AIR, 19, SIDE, 50);
        DUE.due("at 0", x.time(0, 0, 0), 1);
        cells(x, 0, 1, 0, 0, 0, 0);
        x = with(still(1), AIR, 21, SIDE, 46);
        cells(x, 9, 1, -1, -1, -1, -1);
        DUE.due("at -1", x.time(0, 0, 0), 1);
        cells(x, 0, 1, 0, 0, 0, 0);
        // It is asked at the end of a round: not ahead of the first.
        DUE.due("at 0 from the first", still(0).time(0, 0, 0), 1);
    }

    /** By nine degrees, the most (b 9): -890, -900, -910, of a tenth of the water. */
    private static void beginsAtNine() {
        FrozeFirst x = mass(with(still(0), AIR, 19, SIDE, 47), 10);
        cells(x, 9, 1, -890, -890, -890, -890);
        DUE.due("at -890", x.time(0, 9, 0), 2);
        DUE.due("at -890 by eight", x.time(0, 8, 0), 1);
        x = mass(with(still(0), AIR, 18, SIDE, 50), 10);
        DUE.due("at -900", x.time(0, 9, 0), 1);
        cells(x, 9, 1, 0, 0, 0, 0);
        x = mass(with(still(0), AIR, 35, SIDE, 26), 10);
        DUE.due("at -910", x.time(0, 9, 0), 1);
        cells(x, 9, 1, 0, 0, 0, 0);
    }

    /** "some CELL": one is enough, on top or beneath; "CELLS below 0 are 0": others, and above 0, stay. */
    private static void beginsBySomeCell() {
        FrozeFirst x = with(still(1), AIR, 40, TOP, 50);
        // 4100 by 50 of 1000 is 205: -105.
        DUE.due("by the top one", x.time(0, 1, 0), 1);
        cells(x, 1, 1, 0, 100, 100, 100);
        x = with(still(1), AIR, 40, METAL, 50);
        DUE.due("by the lowest one", x.time(0, 1, 0), 1);
        cells(x, 1, 1, 100, 100, 100, 0);
        // One at its degree, the others a little below nought: all of these are 0.
        x = with(still(0), AIR, 40, SIDE, 1, METAL, 24);
        cells(x, 9, 1, -4, -4, -4, -100);
        DUE.due("all below are 0", x.time(0, 1, 0), 1);
        cells(x, 1, 1, 0, 0, 0, 0);
        DUE.due("and no FROST", x.at(0, 1, 1, FROST), 0);
        // It is asked behind the turning: the lowest one at -200 becomes -100, and so does the one above.
        x = with(still(0), AIR, 40, METAL, 50);
        DUE.due("two degrees, not turned", x.time(0, 2, 0), 1);
        with(x, CAUSES, 4);
        cells(x, 2, 1, 0, 0, -100, -100);
        // -295 with -50 is -173 and -172; -363 with -99 is -231 and -231.
        cells(x, 2, 2, 0, -50, -173, -172);
        DUE.due("two degrees, turned", x.time(0, 2, 0), 3);
        DUE.due("one degree, turned", x.time(0, 1, 0), 1);
    }

    /** "if it has not BEGUN": the ROUND stays the first one. */
    private static void beginsOnce() {
        FrozeFirst x = with(still(0), AIR, 20, SIDE, 50, ICE, 80);
        DUE.due("needle", x.time(0, 0, 0), 1);
        // Each round 100 more from each of four: 32000 stand in round 81.
        DUE.due("last drop", x.time(0, 0, 2), 81);
        DUE.due("FROST a round ahead", x.at(0, 0, 80, FROST), 31600);
    }

    /** "If it had BEGUN in an earlier ROUND": not in its own; what is below 0 then is added, and 0. */
    private static void frostFromTheNextRoundOn() {
        FrozeFirst x = with(still(0), SIDE, 10);
        DUE.due("needle", x.time(0, 0, 0), 1);
        DUE.due("FROST ahead", x.at(0, 0, 0, FROST), 0);
        DUE.due("FROST in the needle's round", x.at(0, 0, 1, FROST), 0);
        DUE.due("FROST a round later", x.at(0, 0, 2, FROST), 40);
        cells(x, 0, 2, 0, 0, 0, 0);
        DUE.due("FROST two rounds later", x.at(0, 0, 3, FROST), 80);
        // What is above 0 adds nothing: the top one alone.
        x = with(still(1), AIR, 40, TOP, 50);
        DUE.due("FROST of one", x.at(0, 0, 2, FROST), 200);
        cells(x, 0, 2, 0, 100, 100, 100);
        // Not BEGUN: no FROST, and cells are below 0.
        x = with(still(0), SIDE, 10);
        DUE.due("no FROST unbegun", x.at(0, 1, 10, FROST), 0);
        // 10, then nine times 9: of 990, 981, .. 918.
        DUE.due("below 0 unbegun", x.at(0, 1, 10, 0), -91);
    }

    /** "in which FROST is 400 times ICE or more": 399, 400, 402. */
    private static void lastDropAtEnoughFrost() {
        // The top one by 1 in a round: 399 in round 400.
        FrozeFirst x = with(still(0), TOP, 1, ICE, 1);
        DUE.due("400 just", x.time(0, 0, 2), 401);
        DUE.due("399", x.at(0, 0, 400, FROST), 399);
        DUE.due("400", x.at(0, 0, 401, FROST), 400);
        DUE.due("the RUN has ended", x.at(0, 0, 402, FROST), 400);
        // By 3: 399 in round 134, 402 in round 135.
        x = with(still(0), TOP, 3, ICE, 1);
        DUE.due("402", x.time(0, 0, 2), 135);
        DUE.due("399 is not enough", x.at(0, 0, 134, FROST), 399);
        DUE.due("402 is more", x.at(0, 0, 600, FROST), 402);
        // All at once: 800 in one round, and not in the needle's own.
        x = with(still(0), AIR, 40, SIDE, 50, ICE, 1);
        DUE.due("not in the needle's round", x.time(0, 0, 2), 2);
        DUE.due("needle", x.time(0, 0, 0), 1);
        DUE.due("800 at once", x.at(0, 0, 600, FROST), 800);
    }

    /** ICE (1 to 80): 400, 800, 31600, 32000 by 400 in a round from round 2 on. */
    private static void iceAtItsBounds() {
        for (int ice : new int[] {1, 2, 79, 80}) {
            FrozeFirst x = with(still(0), AIR, 20, SIDE, 50, ICE, ice);
            DUE.due("ICE " + ice, x.time(0, 0, 2), ice + 1);
            DUE.due("FROST of ICE " + ice, x.at(0, 0, 600, FROST), 400 * ice);
        }
    }

    /** "in the first ROUND at whose end its CELL is at 0 or below": 1, 0, -1. */
    private static void glassAtNought() {
        FrozeFirst x = with(still(1), AIR, 32, SIDE, 30);
        cells(x, 9, 1, 1, 1, 1, 1);
        DUE.due("at 1", x.time(0, 9, 1), 2);
        x = with(still(1), AIR, 19, SIDE, 50);
        cells(x, 9, 1, 0, 0, 0, 0);
        DUE.due("at 0", x.time(0, 9, 1), 1);
        x = with(still(1), AIR, 21, SIDE, 46);
        DUE.due("at -1", x.time(0, 9, 1), 1);
        DUE.due("from nought: the end of round 1", still(0).time(0, 9, 1), 1);
        DUE.due("in the needle's own round", x.time(0, 0, 1), 1);
        // The first one counts: 900 less 900 in round 1, and no turning (400 off, 500 off); then -450 and 900 are turned.
        x = mass(with(still(9), AIR, 9, METAL, 50, CAUSES, 4), 10);
        cells(x, 9, 1, 900, 900, 900, 0);
        cells(x, 9, 2, 900, 900, 225, 225);
        DUE.due("reads once", x.glass(0, 9, 3), 1);
    }

    /** The GLASS's CELL (0 on top to 3): each at its own round, told by set() or asked of. */
    private static void glassInEachCell() {
        // From 100: the top one by 60 (66, 62), the side by 10 (ten rounds), the lowest by 30 (33, 32, 31, 30).
        int[] want = {2, 10, 10, 4};
        FrozeFirst x = with(still(1), SIDE, 10, TOP, 50, METAL, 20);
        for (int cell = 0; cell < 4; cell++) {
            DUE.due("glass in " + cell, x.glass(0, 9, cell), want[cell]);
            x.set(9, cell);
            DUE.due("time by the glass in " + cell, x.time(0, 9, 1), want[cell]);
            DUE.due("glass in the lowest", x.glass(0, 9, 3), 4);
        }
    }

    /** "the RUN ends": no glass reads behind the LAST drop, but in its own round it does. */
    private static void glassOfARunThatEnds() {
        // The top one gives 220 or 216 in a round from round 2 on: 800 stand in round 5.
        FrozeFirst x = with(still(1), AIR, 40, SIDE, 5, TOP, 50, ICE, 2);
        DUE.due("last drop", x.time(0, 0, 2), 5);
        // 4100 by 5 of 1000 is 20: 100, 80, .. 0 in round 5.
        DUE.due("in its very round", x.glass(0, 0, 1), 5);
        with(x, SIDE, 4);
        DUE.due("last drop, less side", x.time(0, 0, 2), 5);
        DUE.due("a round that does not come", x.glass(0, 0, 1), 601);
        with(x, SIDE, 6);
        // 24 in a round: 28, 4, -20: in round 5 as well; by 7 (28): -12 in round 4.
        DUE.due("more side", x.glass(0, 0, 1), 5);
        with(x, SIDE, 7);
        DUE.due("yet more side", x.glass(0, 0, 1), 4);
    }

    /** One hundredth of a degree in a round: 600 in 600 rounds; a first round of 2, or on rime of 0. */
    private static FrozeFirst inThe(int round, int start) {
        FrozeFirst x = with(still(start), METAL, 1, ON_RIME, 0, MELT, 50, RIME, 1, AIR, 10);
        // 100 times START and 100 times AIR are 2000 just once.
        if (round == 599) with(x, AIR, 20 - start);
        // On rime in round 1 alone: what is there melts in it.
        if (round == 601) with(x, CAUSES, 2);
        return x;
    }

    /** "In each ROUND (1 to 600)", "601, if it does not come": the needle in round 599, 600, and in no 601. */
    private static void needleInTheLastRounds() {
        for (int round = 599; round <= 601; round++) {
            FrozeFirst x = inThe(round, 6);
            DUE.due("the needle in round " + round, x.time(0, 0, 0), round);
            DUE.due("one above, a round ahead of " + round, x.at(0, 0, round - 1, 3), 1);
        }
        DUE.due("by one degree it does not come", inThe(599, 6).time(0, 1, 0), 601);
    }

    private static void glassInTheLastRounds() {
        for (int round = 599; round <= 601; round++) {
            FrozeFirst x = inThe(round, 6);
            DUE.due("the glass in round " + round, x.glass(0, 9, 3), round);
            x.set(9, 3);
            DUE.due("time by the glass in round " + round, x.time(0, 9, 1), round);
            DUE.due("a glass where it stays warm", x.glass(0, 9, 2), 601);
            DUE.due("one above, a round ahead of " + round, x.at(0, 9, round - 1, 3), 1);
        }
    }

    private static void lastDropInTheLastRounds() {
        for (int round = 599; round <= 601; round++) {
            // 200 to nought, then FROST of one in a round: 400.
            FrozeFirst x = with(inThe(round, 2), ICE, 1);
            DUE.due("the needle ahead", x.time(0, 0, 0), round - 400);
            DUE.due("the last drop in round " + round, x.time(0, 0, 2), round);
            DUE.due("FROST a round ahead of " + round, x.at(0, 0, round - 1, FROST), 399);
            DUE.due("FROST behind all rounds", x.at(0, 0, 600, FROST), round == 601 ? 399 : 400);
        }
    }

    /** "601, if it does not come". */
    private static void neverComes() {
        FrozeFirst x = still(1);
        for (int meaning = 0; meaning < 3; meaning++) {
            DUE.due("never by meaning " + meaning, x.time(0, 0, meaning), 601);
            DUE.due("never of the cold one", x.time(1, 9, meaning), 601);
        }
        for (int cell = 0; cell < 4; cell++) DUE.due("never in cell " + cell, x.glass(0, 0, cell), 601);
        x = still(0);
        DUE.due("a needle", x.time(0, 0, 0), 1);
        DUE.due("a glass", x.time(0, 0, 1), 1);
        DUE.due("but no last drop", x.time(0, 0, 2), 601);
        DUE.due("no needle by one degree", x.time(0, 1, 0), 601);
        DUE.due("a glass all the same", x.time(0, 1, 1), 1);
    }

    /** "Behind a ROUND (0 to 600 ..)". */
    private static void behindARound() {
        FrozeFirst x = inThe(600, 6);
        int refused = FrozeFirst.GONE + FrozeFirst.OUTSIDE;
        int[] rounds = {-1, 0, 1, 599, 600, 601};
        int[] want = {refused, 600, 599, 1, 0, refused};
        for (int i = 0; i < rounds.length; i++) {
            DUE.due("at(0, 9, " + rounds[i] + ", 3)", x.at(0, 9, rounds[i], 3), want[i]);
        }
    }

    /** "the last one of the RUN, if it ended ahead of it": a round ahead, that one, a round behind, all behind. */
    private static void behindTheEndOfARun() {
        // In round 5 the RUN ends; each round still moves all that can be asked of.
        FrozeFirst x = with(still(2), AIR, 40, SIDE, 1, TOP, 50, MELT, 50, STEAM, 50, ICE, 2, CAUSES, 3);
        int end = x.time(0, 0, 2);
        DUE.holds("it ends: " + end, end > 3 && end < 20);
        int moved = 0;
        for (int what = 0; what <= 6; what++) {
            int last = x.at(0, 0, end, what);
            if (x.at(0, 0, end - 1, what) != last) moved++;
            DUE.due("a round behind the end, " + what, x.at(0, 0, end + 1, what), last);
            DUE.due("round 599, " + what, x.at(0, 0, 599, what), last);
            DUE.due("round 600, " + what, x.at(0, 0, 600, what), last);
            DUE.due("no round 601, " + what, x.at(0, 0, 601, what), FrozeFirst.GONE + FrozeFirst.OUTSIDE);
        }
        DUE.holds("the last round moved something", moved >= 2);
    }
}
