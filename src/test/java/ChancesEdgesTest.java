/** Promises 16 to 19, sentence by sentence: what stands at an edge, and what is just beyond it. */
public final class ChancesEdgesTest {
    private static final Checks CHECKS = new Checks();
    private static final long NO_SUIT = CandleCourt.GONE + Checks.UNKNOWN;
    private static final long NO_NUMBER = CandleCourt.GONE + Checks.OUTSIDE;
    private static final String SIX = "10+10=1d;10+10=2p;10+10=4d;10+10=8p;10+10=16d;10+10=32p";

    public static void main(String[] args) {
        stallFromTheFirstToTheLastSecond();
        stallPlayedOut();
        stallRefused();
        refusalsOfFractions();
        neverAndAlways();
        likelyJustThen();
        likelyOfSix();
        meanByTheLaw();
        meanOfEachSide();
        meanWithoutSuits();
        meanOfGreatWorths();
        termWithoutSuits();
        termJustThen();
        theSunkOneIsDone();
        theFingerIsHeldEachDay();
        termInTheSameOrder();
        termRefused();
        CHECKS.end("ChancesEdgesTest");
    }

    // "from a second t on (no later than it sinks)", "just then it is over", "the one in which it sinks counting"
    private static void stallFromTheFirstToTheLastSecond() {
        CandleCourt x = new CandleCourt();
        Checks.stub(x, 1, 1, 5, 0);
        for (int m = 1; m <= 9; m++) {
            CHECKS.stall(x, 65, m, Checks.NONE, 1);
            CHECKS.stall(x, 56, m, Checks.NONE, 1);
            CHECKS.stall(x, 55, m, 1, 2);
            CHECKS.stall(x, Math.max(5, 65 - 10 * m), m, Math.min(m, 6), 2);
            CHECKS.due("stall beyond", x.stall(66, m, 0), Checks.OUTSIDE);
        }
        CHECKS.stall(x, 0, 1, Checks.NONE, 7);
        CHECKS.stall(x, 5, 2, Checks.NONE, 5);
        CHECKS.stall(x, 5, 3, 2, 4);
        CHECKS.stall(x, 5, 4, 1, 4);
        CHECKS.stall(x, 5, 5, Checks.NONE, 3);
        CHECKS.stall(x, 5, 6, 6, 2);
        CHECKS.stall(x, 6, 5, 5, 2);
    }

    /** By every first speech: he wins only with the told one, for the other one's tens are then no NONE. */
    private static void stallPlayedOut() {
        for (int m = 1; m <= 9; m++) {
            for (int tens = 0; tens <= 23; tens++) {
                CandleCourt x = new CandleCourt();
                int t = 600 - 10 * tens;
                int told = x.stall(t, m, 0);
                for (int k = 1; k <= Math.min(m, tens); k++) {
                    boolean wins = x.stall(t + 10 * k, m, 0) == Checks.NONE;
                    CHECKS.due("he begins with " + k + " of " + tens, wins ? 1 : 0, k == told ? 1 : 0);
                    int then = 1 + x.stall(t + 10 * k, m, 1);
                    if (k == told) {
                        CHECKS.due("moves if he wins", x.stall(t, m, 1), then);
                    } else if (told == Checks.NONE) {
                        CHECKS.holds("no speech loses later", x.stall(t, m, 1) >= then);
                    }
                }
            }
        }
    }

    // "OUTSIDE: t 0 to when it sinks, M, what"
    private static void stallRefused() {
        CandleCourt x = Checks.court(SIX);
        for (int t : new int[] {Checks.MIN, -1, 601, 1000, Checks.MAX}) {
            CHECKS.due("stall(" + t + ", 1, 0)", x.stall(t, 1, 0), Checks.OUTSIDE);
        }
        for (int m : new int[] {Checks.MIN, -1, 0, 10, Checks.MAX}) {
            CHECKS.due("stall(0, " + m + ", 1)", x.stall(0, m, 1), Checks.OUTSIDE);
        }
        for (int what : new int[] {Checks.MIN, -1, 2, Checks.MAX}) {
            CHECKS.due("stall(0, 1, " + what + ")", x.stall(0, 1, what), Checks.OUTSIDE);
        }
        x.set(2, 1);
        CHECKS.due("a second held", x.stall(601, 1, 1), 1);
        x.set(1, 9);
        CHECKS.due("a wider hole", x.stall(601, 1, 1), Checks.OUTSIDE);
        CHECKS.due("just when it sinks", x.stall(67, 9, 1), 1);
        CHECKS.due("a second later", x.stall(68, 9, 1), Checks.OUTSIDE);
    }

    // "UNKNOWN; OUTSIDE": the first of these that fits, with GONE
    private static void refusalsOfFractions() {
        CandleCourt x = Checks.court(SIX);
        int[][] wrong = {{-1, 0, 0}, {1000, 0, 0}, {0, -1, 0}, {0, 11, 0}, {0, 0, -1}, {0, 0, 2},
            {Checks.MIN, 0, 0}, {Checks.MAX, 0, 0}, {0, Checks.MIN, 0}, {0, Checks.MAX, 0}, {0, 0, Checks.MIN},
            {0, 0, Checks.MAX}};
        for (int[] w : wrong) {
            CHECKS.due("likely refused", x.likely(5, w[0], w[1], w[2]), NO_NUMBER);
            CHECKS.due("mean refused", x.mean(3, w[0], w[1], w[2]), NO_NUMBER);
            CHECKS.due("UNKNOWN goes ahead of OUTSIDE", x.likely(6, w[0], w[1], w[2]), NO_SUIT);
        }
        for (int suit : new int[] {Checks.MIN, -1, 6, 7, Checks.MAX}) {
            CHECKS.due("likely of no suit", x.likely(suit, 0, 0, 0), NO_SUIT);
        }
        for (int side : new int[] {Checks.MIN, -1, 4, Checks.MAX}) {
            CHECKS.due("mean of no side", x.mean(side, 0, 0, 0), NO_NUMBER);
        }
        CHECKS.due("GONE and UNKNOWN", NO_SUIT, -1000000000000000001L);
        CHECKS.due("GONE and OUTSIDE", NO_NUMBER, -1000000000000000002L);
    }

    // c tenths 0 and 10: it never or always takes longer; longer 0 changes nothing; 0 and 1 in lowest terms
    private static void neverAndAlways() {
        CandleCourt x = Checks.court(SIX);
        Checks.stub(x, 1, 1, 0, 0);
        for (int suit = 0; suit < 6; suit++) {
            int now = suit < 3 ? 1 : 0;
            CHECKS.likely(x, suit, 999, 0, now, 1);
            CHECKS.likely(x, suit, 0, 10, now, 1);
            CHECKS.likely(x, suit, 0, 5, now, 1);
            CHECKS.likely(x, suit, 10, 10, suit < 2 ? 1 : 0, 1);
            CHECKS.likely(x, suit, 999, 10, 0, 1);
        }
        for (int side = 0; side < 4; side++) {
            CHECKS.mean(x, side, 999, 0, x.won(side), 1);
            CHECKS.mean(x, side, 0, 10, x.won(side), 1);
            CHECKS.mean(x, side, 0, 7, x.won(side), 1);
        }
        CHECKS.mean(x, 0, 999, 10, 1, 1);
        CHECKS.mean(x, 3, 999, 10, 0, 1);
        CHECKS.mean(x, 0, 10, 10, 2 + 4, 1);
    }

    private static void likelyJustThen() {
        CandleCourt x = Checks.court("10+10=1d;10+10=2p");
        Checks.stub(x, 1, 1, 0, 0);
        CHECKS.likely(x, 0, 40, 10, 1, 1);
        CHECKS.likely(x, 0, 41, 1, 9, 10);
        CHECKS.likely(x, 1, 10, 10, 1, 1);
        CHECKS.likely(x, 1, 11, 1, 99, 100);
        CHECKS.likely(x, 1, 20, 1, 99, 100);
        CHECKS.likely(x, 1, 21, 1, 81, 100);
        CHECKS.likely(x, 1, 21, 9, 1, 100);
        x.set(2, 1);
        CHECKS.likely(x, 1, 21, 9, 19, 100);
        Checks.lay(x, "10");
        CHECKS.likely(x, 1, 41, 5, 1, 1);
        CHECKS.likely(x, 0, 41, 5, 1, 4);
    }

    /** Six suits of 20 seconds, the stub floats 125: 5 seconds are to spare for all of them together. */
    private static void likelyOfSix() {
        CandleCourt x = Checks.court(SIX);
        Checks.stub(x, 2, 1, 5, 0);
        CHECKS.likely(x, 5, 6, 1, 531441, 1000000);
        CHECKS.likely(x, 4, 26, 1, 59049, 100000);
        CHECKS.likely(x, 4, 25, 1, 45927, 50000);
        CHECKS.likely(x, 5, 5, 5, 7, 64);
        CHECKS.likely(x, 5, 1, 5, 63, 64);
        CHECKS.likely(x, 5, 1, 9, 468559, 1000000);
        CHECKS.likely(x, 0, 999, 9, 1, 10);
    }

    /** The first is over just when it sinks: it is decided by 7 tenths, sunk by 3. */
    private static void meanByTheLaw() {
        CandleCourt x = Checks.court("10+10=7d;10+10=1d");
        Checks.stub(x, 1, 9, 14, 0);
        CHECKS.mean(x, 1, 1, 3, 49, 10);
        CHECKS.mean(x, 0, 1, 3, 14, 5);
        x.set(3, 1);
        CHECKS.mean(x, 0, 1, 3, 0, 1);
        CHECKS.mean(x, 2, 1, 3, 14, 5);
        CHECKS.mean(x, 3, 1, 10, 0, 1);
        CHECKS.mean(x, 2, 1, 10, 7, 1);
    }

    /** It sinks at 45: the second of 20 seconds is decided if neither of two is longer by 6, else it sinks. */
    private static void meanOfEachSide() {
        CandleCourt x = Checks.court("10+10=100p;10+10=50d;10+10=8p");
        Checks.stub(x, 1, 9, 39, 0);
        CHECKS.mean(x, 3, 6, 5, 225, 2);
        CHECKS.mean(x, 1, 6, 5, 25, 2);
        CHECKS.mean(x, 0, 6, 5, 279, 2);
        CHECKS.mean(x, 2, 6, 5, 0, 1);
        x.set(3, 1);
        CHECKS.mean(x, 0, 6, 5, 100, 1);
        CHECKS.mean(x, 2, 6, 5, 79, 2);
        CHECKS.mean(x, 2, 6, 1, 799, 50);
        Checks.lay(x, "210");
        CHECKS.mean(x, 3, 6, 5, 41, 2);
        CHECKS.mean(x, 2, 6, 5, 125, 2);
    }

    private static void meanWithoutSuits() {
        CandleCourt x = new CandleCourt();
        for (int side = 0; side < 4; side++) {
            CHECKS.mean(x, side, 0, 0, 0, 1);
            CHECKS.mean(x, side, 999, 10, 0, 1);
        }
    }

    private static void meanOfGreatWorths() {
        CandleCourt x = Checks.court("1+1=999d;1+1=999d;1+1=999d;1+1=999d;1+1=999d;1+1=999d");
        CHECKS.mean(x, 3, 999, 0, 5994, 1);
        CHECKS.mean(x, 3, 98, 10, 5994, 1);
        CHECKS.mean(x, 3, 99, 10, 4995, 1);
        CHECKS.mean(x, 0, 99, 10, 999, 1);
        CHECKS.mean(x, 0, 589, 1, 468090441, 1000000);
    }

    // "how many DAYS till none waits (0 without SUITS)"
    private static void termWithoutSuits() {
        CandleCourt x = new CandleCourt();
        CHECKS.term(x, 0, 0, 0, 0, 0);
        Checks.say(x, SIX);
        x.suits();
        CHECKS.term(x, 1, 42, 21, 0, 63);
        x.suits();
        CHECKS.term(x, 0, 0, 0, 0, 0);
    }

    private static void termJustThen() {
        CandleCourt x = Checks.court(SIX);
        Checks.stub(x, 2, 1, 0, 0);
        CHECKS.term(x, 1, 42, 21, 0, 63);
        x.set(2, 1);
        CHECKS.term(x, 1, 42, 21, 0, 63);
        // A second less: the last one sinks, and none waits.
        Checks.stub(x, 1, 1, 59, 1);
        CHECKS.term(x, 1, 10, 21, 32, 31);
        // 99 seconds: four are decided, the fifth sinks, the sixth is decided on the next day.
        x.set(2, 39);
        CHECKS.term(x, 2, 42, 5, 16, 47);
    }

    // "the SUNK one is done", "A SUIT that is longer than a STUB floats is SUNK."
    private static void theSunkOneIsDone() {
        CandleCourt x = Checks.court("601+1=1d;600+1=2p;1+1=4d;1+600=8d;1+999=16p;999+999=32d");
        CHECKS.term(x, 5, 1 + 2 + 8 + 16 + 32, 4, 0, 4);
        x.set(3, 1);
        CHECKS.term(x, 5, 0, 4, 59, 4);
        CandleCourt y = Checks.court("4+3=1d;4+3=2d;4+3=4d;4+3=8d;4+3=16d;4+3=32d");
        Checks.stub(y, 1, 9, 0, 1);
        CHECKS.term(y, 6, 0, 0, 63, 0);
        y.set(2, 1);
        CHECKS.term(y, 3, 0, 21, 42, 21);
        y.set(2, 15);
        CHECKS.term(y, 2, 0, 1 + 2 + 4 + 16 + 32, 8, 55);
    }

    // "THE FINGER is HELD each DAY", by "a STUB alike"
    private static void theFingerIsHeldEachDay() {
        CandleCourt x = Checks.court("100+6=1d;1+106=2d;53+53=4p;53+54=8p;106+1=16d;105+1=32d");
        Checks.stub(x, 1, 9, 100, 1);
        CHECKS.term(x, 4, 4, 33, 26, 37);
        x.set(2, 99);
        CHECKS.term(x, 6, 0, 0, 63, 0);
        x.set(2, 101);
        CHECKS.term(x, 3, 4, 17, 42, 21);
    }

    private static void termInTheSameOrder() {
        CandleCourt x = Checks.court("30+30=1d;60+60=2d;10+20=4p;10+30=8p");
        Checks.stub(x, 1, 1, 10, 1);
        // By 0123: 0; 1 sinks; 2, 3.
        CHECKS.term(x, 2, 12, 1, 2, 13);
        Checks.lay(x, "3201");
        // 3, 2; 0 sinks; 1 sinks.
        CHECKS.term(x, 2, 12, 0, 3, 12);
        Checks.lay(x, "1302");
        // 1 sinks; 3; 0 sinks; 2.
        CHECKS.term(x, 3, 12, 0, 3, 12);
        CHECKS.due("the order stays", x.told(10), 1);
    }

    private static void termRefused() {
        for (int side : new int[] {Checks.MIN, -2, 4, Checks.MAX}) {
            CHECKS.due("term(" + side + ")", Checks.court(SIX).term(side), Checks.OUTSIDE);
            CHECKS.due("term(" + side + ") without suits", new CandleCourt().term(side), Checks.OUTSIDE);
        }
    }
}
