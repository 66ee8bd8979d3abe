/** Promises 20 to 23, sentence by sentence: what stands at an edge, and what is just beyond it. */
public final class HolesEdgesTest {
    private static final Checks CHECKS = new Checks();
    private static final String FOUR = "50+50=10p;60+40=20d;20+20=5d;90+90=90p";
    private static final String SIX = "1+1=1p;2+2=2d;3+3=3p;4+4=4d;5+5=5p;6+6=6d";

    /** By a stub of 99 and holes of 9 to 4: 0 to 5 of these are decided, by narrower ones all. */
    private static final String NARROWING = "350+350=1p;50+50=1p;50+50=1p;100+100=1p;100+100=1p;299+1=1p";

    public static void main(String[] args) {
        sightsAtTheirEdges();
        sevenSights();
        sightsOfSoManySuits();
        forgetTakesSightsAlone();
        noSightsFitAll();
        eachHole();
        justThenFits();
        sightsThatContradict();
        fitsByTheFingerAsItIs();
        fitsByTheOrderAsItIs();
        fitsByTheStubOfTheSight();
        yearAtItsEdges();
        yearGoesRound();
        yearTakesAllSuitsEachDay();
        yearRefused();
        CHECKS.end("HolesEdgesTest");
    }

    // "OUTSIDE: the weight, so many (0 to SUITS); FULL."
    private static void sightsAtTheirEdges() {
        for (int weight : new int[] {1, 2, 50, 98, 99}) {
            for (int many = 0; many <= 6; many++) {
                CHECKS.due("seen(" + weight + ", " + many + ")", Checks.court(SIX).seen(weight, many), 1);
            }
            for (int many : new int[] {Checks.MIN, -1, 7, 8, Checks.MAX}) {
                CHECKS.due("seen(" + weight + ", " + many + ")", Checks.court(SIX).seen(weight, many), Checks.OUTSIDE);
            }
        }
        for (int weight : new int[] {Checks.MIN, -1, 0, 100, 101, Checks.MAX}) {
            CHECKS.due("seen(" + weight + ", 0)", Checks.court(SIX).seen(weight, 0), Checks.OUTSIDE);
        }
    }

    // "(6 at most ..)"; OUTSIDE goes ahead of FULL; the same sight may be told again
    private static void sevenSights() {
        CandleCourt x = Checks.court(SIX);
        for (int i = 1; i <= 6; i++) {
            CHECKS.due("seen(99, 6)", x.seen(99, 6), i);
            CHECKS.due("told(6)", x.told(6), i);
        }
        CHECKS.due("a seventh", x.seen(99, 6), Checks.FULL);
        CHECKS.due("a seventh with another weight", x.seen(1, 0), Checks.FULL);
        CHECKS.due("a seventh of weight 0", x.seen(0, 6), Checks.OUTSIDE);
        CHECKS.due("a seventh of weight 100", x.seen(100, 6), Checks.OUTSIDE);
        CHECKS.due("a seventh of -1", x.seen(99, -1), Checks.OUTSIDE);
        CHECKS.due("a seventh of 7", x.seen(99, 7), Checks.OUTSIDE);
        CHECKS.due("told(6) stays", x.told(6), 6);
        CHECKS.due("the six hold", x.fits(), 1022);
        CHECKS.due("forget()", x.forget(), 6);
        CHECKS.due("seen() then", x.seen(99, 0), 1);
        CHECKS.due("fits() of it", x.fits(), 0);
    }

    private static void sightsOfSoManySuits() {
        CandleCourt x = new CandleCourt();
        CHECKS.due("seen(1, 0) without suits", x.seen(1, 0), 1);
        CHECKS.due("seen(1, 1) without suits", x.seen(1, 1), Checks.OUTSIDE);
        CHECKS.due("it holds by all", x.fits(), 1022);
        Checks.say(x, "1+1=1p;1+1=1p");
        x.suits();
        CHECKS.due("seen(1, 2) of two", x.seen(1, 2), 1);
        CHECKS.due("seen(1, 3) of two", x.seen(1, 3), Checks.OUTSIDE);
    }

    // "SIGHTS go: how many there were."
    private static void forgetTakesSightsAlone() {
        for (int sights = 0; sights <= 6; sights++) {
            CandleCourt x = Checks.court(FOUR);
            Checks.stub(x, 50, 4, 7, 1);
            Checks.lay(x, "3120");
            Checks.say(x, "50");
            String before = Checks.state(x);
            for (int i = 0; i < sights; i++) {
                x.seen(1 + i, 1);
            }
            CHECKS.due("forget()", x.forget(), sights);
            CHECKS.same("after forget()", Checks.state(x), before);
            CHECKS.due("forget() again", x.forget(), 0);
        }
    }

    // "widths of THE HOLE (1 to 9) by which all SIGHTS hold .. as bits 1 to 9"
    private static void noSightsFitAll() {
        CHECKS.due("fits() of a new object", new CandleCourt().fits(), 1022);
        CHECKS.due("fits() without sights", Checks.court(FOUR).fits(), 1022);
    }

    private static int holes(int first, int last) {
        int bits = 0;
        for (int hole = first; hole <= last; hole++) {
            bits |= 1 << hole;
        }
        return bits;
    }

    private static void fitsOf(String suits, int held, int weight, int many, int want) {
        CandleCourt x = Checks.court(suits);
        x.set(2, held);
        x.seen(weight, many);
        CHECKS.due("fits() of " + many + " by " + weight + ", held " + held, x.fits(), want);
    }

    private static void eachHole() {
        for (int many = 0; many <= 5; many++) {
            fitsOf(NARROWING, 0, 99, many, 1 << 9 - many);
        }
        fitsOf(NARROWING, 0, 99, 6, holes(1, 3));
        String wide = "990+990=1p;500+490=1p;999+999=1p;900+72=1p";
        fitsOf(wide, 0, 99, 4, 1 << 1);
        fitsOf(wide, 0, 99, 3, 0);
        fitsOf(wide, 0, 99, 2, 1 << 2);
        fitsOf(wide, 0, 99, 1, 1 << 3);
        fitsOf(wide, 0, 99, 0, holes(4, 9));
    }

    /** By a stub of 1 it floats 60, 30, 20, 15, 12, 10, 8 (cut), 7 (cut), 6 (cut) seconds. */
    private static void justThenFits() {
        int[] floats = {60, 30, 20, 15, 12, 10, 8, 7, 6};
        for (int lasts = 2; lasts <= 61; lasts++) {
            int bits = 0;
            for (int hole = 1; hole <= 9; hole++) {
                bits |= floats[hole - 1] >= lasts ? 1 << hole : 0;
            }
            fitsOf("1+" + (lasts - 1) + "=5d", 0, 1, 1, bits);
            fitsOf("1+" + (lasts - 1) + "=5d", 0, 1, 0, 1022 - bits);
            fitsOf("1+" + (lasts + 6) + "=5d", 7, 1, 1, bits);
        }
    }

    private static void sightsThatContradict() {
        CandleCourt x = Checks.court(NARROWING);
        x.seen(99, 1);
        CHECKS.due("one sight", x.fits(), 1 << 8);
        x.seen(98, 1);
        CHECKS.due("a second that holds too", x.fits(), 1 << 8);
        x.seen(1, 0);
        CHECKS.due("a third that holds by all", x.fits(), 1 << 8);
        x.seen(99, 2);
        CHECKS.due("a fourth that does not", x.fits(), 0);
        x.seen(99, 1);
        CHECKS.due("it stays so", x.fits(), 0);
        x.seen(2, 6);
        CHECKS.due("and by the sixth", x.fits(), 0);
        for (int wrong = 0; wrong < 6; wrong++) {
            x.forget();
            for (int i = 0; i < 6; i++) {
                x.seen(99, i == wrong ? 0 : 1);
            }
            CHECKS.due("the " + wrong + "th does not hold", x.fits(), 0);
        }
    }

    // "THE FINGER .. as they are": when fits is asked, not when the sight was told
    private static void fitsByTheFingerAsItIs() {
        CandleCourt x = Checks.court("5+5=1p;10+10=1p");
        x.seen(1, 1);
        CHECKS.due("10 to 29 seconds", x.fits(), holes(3, 6));
        x.set(2, 2);
        CHECKS.due("two seconds held", x.fits(), holes(3, 7));
        x.set(2, 4);
        CHECKS.due("four seconds held", x.fits(), holes(3, 9));
        x.set(2, 15);
        CHECKS.due("15 seconds held", x.fits(), holes(5, 9));
        x.set(2, 24);
        CHECKS.due("24 seconds held", x.fits(), 0);
        x.seen(1, 2);
        CHECKS.due("told while it is held", x.fits(), 0);
        x.set(2, 0);
        CHECKS.due("and held no longer", x.fits(), 0);
        x.forget();
        x.set(2, 999);
        x.seen(1, 2);
        CHECKS.due("999 seconds held", x.fits(), 1022);
        x.set(2, 0);
        CHECKS.due("two by 30 seconds", x.fits(), holes(1, 2));
    }

    // ".. and the order as they are"
    private static void fitsByTheOrderAsItIs() {
        CandleCourt x = Checks.court("5+5=1p;10+10=1p;1+1=1p");
        x.seen(1, 1);
        String[] orders = {"012", "021", "102", "120", "201", "210"};
        int[] want = {holes(3, 6), holes(6, 6), holes(3, 3), holes(3, 3), holes(6, 9), holes(3, 9)};
        for (int i = 0; i < orders.length; i++) {
            Checks.lay(x, orders[i]);
            CHECKS.due("fits() by " + orders[i], x.fits(), want[i]);
            CHECKS.due("sights", x.told(6), 1);
        }
    }

    // "by a STUB of a weight": that of the sight; by which hole is asked
    private static void fitsByTheStubOfTheSight() {
        CandleCourt x = Checks.court(NARROWING);
        x.seen(99, 3);
        for (int weight : new int[] {1, 50, 99}) {
            for (int hole : new int[] {1, 5, 9}) {
                Checks.stub(x, weight, hole, 0, hole & 1);
                CHECKS.due("fits() by " + weight + " and " + hole, x.fits(), 1 << 6);
            }
        }
    }

    /** The weight of the only day by a seed: the least by which a suit that just is over by it is decided. */
    private static void weightOf(int seed, int weight) {
        CHECKS.due("decided by seed " + seed, yearOf(60 * weight / 9, seed), 1);
        CHECKS.due("not a second longer by " + seed, yearOf(60 * weight / 9 + 1, seed), 0);
    }

    private static int yearOf(int lasts, int seed) {
        CandleCourt x = Checks.court(lasts / 2 + "+" + (lasts - lasts / 2) + "=7d");
        Checks.stub(x, 50, 9, 0, 1);
        int decided = x.year(seed, 1, -1);
        CHECKS.due("it wins by seed " + seed, x.year(seed, 1, 1), 7 * decided);
        CHECKS.due("or the poor", x.year(seed, 1, 2), 7 - 7 * decided);
        return decided;
    }

    // "x, the seed at first, becomes .. (75 x and 74) left over by 65537; .. 1 more than what x leaves over by 99"
    private static void yearAtItsEdges() {
        weightOf(0, 75);
        weightOf(1, 51);
        weightOf(9999, 86);
        // The last seed without a round of 65537, and the first with one.
        weightOf(872, 36);
        weightOf(873, 13);
        // The lightest and the heaviest.
        weightOf(890, 1);
        weightOf(1022, 1);
        weightOf(32, 99);
        weightOf(164, 99);
    }

    private static void years(CandleCourt x, int seed, int m, int[] want) {
        for (int side = -1; side < 4; side++) {
            CHECKS.due("year(" + seed + ", " + m + ", " + side + ")", x.year(seed, m, side), want[side + 1]);
        }
    }

    /** Whole years, counted elsewhere. */
    private static void yearGoesRound() {
        CandleCourt x = Checks.court(FOUR);
        Checks.stub(x, 1, 9, 0, 0);
        years(x, 0, 99, new int[] {277, 7680, 1920, 0, 6390});
        x.set(3, 1);
        years(x, 9999, 99, new int[] {258, 4630, 1675, 2395, 6305});
        x.set(2, 7);
        Checks.lay(x, "2031");
        years(x, 9999, 99, new int[] {268, 5440, 1330, 2585, 6770});
        CandleCourt y = Checks.court("500+500=10p;600+400=20d;200+200=5d;900+900=90p");
        years(y, 0, 99, new int[] {258, 7125, 1805, 0, 5635});
        Checks.stub(y, 99, 1, 999, 1);
        years(y, 9999, 99, new int[] {301, 5220, 2005, 2725, 7225});
        y.set(2, 0);
        years(y, 1234, 50, new int[] {124, 1720, 830, 1740, 2550});
        years(new CandleCourt(), 9999, 99, new int[] {0, 0, 0, 0, 0});
    }

    // "all SUITS each DAY": none is done by the day before, the stub told is no matter and stays
    private static void yearTakesAllSuitsEachDay() {
        CandleCourt x = Checks.court("1+1=999p;1+1=999p;1+1=999p;1+1=999p;1+1=999p;1+1=999p");
        x.set(2, 6);
        years(x, 9999, 99, new int[] {594, 593406, 0, 0, 593406});
        years(x, 9999, 1, new int[] {6, 5994, 0, 0, 5994});
        CandleCourt y = Checks.court("999+999=999p;999+999=999p;999+999=999p");
        years(y, 9999, 99, new int[] {103, 201798, 0, 0, 102897});
        CHECKS.due("the weight stays", y.told(1), 10);
        CHECKS.due("the day stays", y.day(2), 0);
    }

    private static void yearRefused() {
        CandleCourt x = Checks.court(FOUR);
        for (int seed : new int[] {Checks.MIN, -1, 10000, Checks.MAX}) {
            CHECKS.due("year(" + seed + ", 1, -1)", x.year(seed, 1, -1), Checks.OUTSIDE);
        }
        for (int m : new int[] {Checks.MIN, -1, 0, 100, Checks.MAX}) {
            CHECKS.due("year(0, " + m + ", 0)", x.year(0, m, 0), Checks.OUTSIDE);
        }
        for (int side : new int[] {Checks.MIN, -2, 4, Checks.MAX}) {
            CHECKS.due("year(0, 1, " + side + ")", x.year(0, 1, side), Checks.OUTSIDE);
        }
    }
}
