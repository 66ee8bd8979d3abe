/** Promises 9 to 15, sentence by sentence: what stands at an edge, and what is just beyond it. */
public final class DaysEdgesTest {
    private static final Checks CHECKS = new Checks();
    private static final String FOUR = "50+50=10p;60+40=20d;20+20=5d;90+90=90p";
    private static final String SIX = "10+10=1d;10+20=2p;10+30=4d;10+40=8p;10+50=16d;10+60=32p";

    public static void main(String[] args) {
        everyStubAndHole();
        dayRefused();
        bothSpeechesOver();
        theSinkingSecond();
        oneIsSunkOnlyIfNotDecided();
        shortOnesBehindWait();
        overIfNothingSank();
        fates();
        theSunkOneByTheLaw();
        nothingForThoseWhoWait();
        greatestAndLeastWorths();
        wonRefused();
        firstOrderByNumbers();
        orderOfSix();
        orderTold();
        waxOfEverySet();
        waxAtNinetyNine();
        setsRefused();
        fingerAtItsEdges();
        fingerByTheOrder();
        drawnOutIsTheLeast();
        drawnOutOfThoseNotDecided();
        CHECKS.end("DaysEdgesTest");
    }

    // "it floats 60 times the weight by the width of the hole seconds (cut)", "HELD seconds .. longer"
    private static void everyStubAndHole() {
        for (int weight = 1; weight <= 99; weight++) {
            CandleCourt x = new CandleCourt();
            x.set(0, weight);
            for (int hole = 1; hole <= 9; hole++) {
                x.set(1, hole);
                int floats = x.day(0);
                boolean cut = floats * hole <= 60 * weight && (floats + 1) * hole > 60 * weight;
                CHECKS.holds("day(0) by " + weight + " and " + hole + " is cut", cut);
                x.set(2, 1);
                CHECKS.due("a second held", x.day(0), floats + 1);
                x.set(2, 999);
                CHECKS.due("999 seconds held", x.day(0), floats + 999);
                x.set(2, 0);
            }
        }
    }

    private static void dayRefused() {
        CandleCourt x = Checks.court(FOUR);
        for (int what : new int[] {Checks.MIN, -1, 3, 4, Checks.MAX}) {
            CHECKS.due("day(" + what + ")", x.day(what), Checks.OUTSIDE);
        }
        CHECKS.due("day(2), none sunk", x.day(2), Checks.NONE);
        CandleCourt none = new CandleCourt();
        CHECKS.due("day(1) without suits", none.day(1), 0);
        CHECKS.due("day(2) without suits", none.day(2), Checks.NONE);
    }

    // "It is DECIDED, if both are over when the STUB sinks, or just then"
    private static void bothSpeechesOver() {
        String[] texts = {"59+1=7d", "30+30=7d", "1+59=7d", "59+2=7d", "60+1=7d", "61+1=7d", "1+60=7d"};
        for (int i = 0; i < texts.length; i++) {
            CandleCourt x = Checks.court(texts[i]);
            x.set(0, 1);
            boolean decided = i < 3;
            CHECKS.due("day(1) of " + texts[i], x.day(1), decided ? 1 : 0);
            CHECKS.due("day(2) of it", x.day(2), decided ? Checks.NONE : 0);
            CHECKS.due("over(0, 1) of it", x.over(0, 1), decided ? 0 : 1);
            CHECKS.due("won(1) of it", x.won(1), decided ? 7 : 0);
        }
    }

    // "that which is pleaded then (some second of it is over, or not) and is not DECIDED is SUNK; all behind it WAIT"
    private static void theSinkingSecond() {
        CandleCourt x = Checks.court(SIX);
        int[] ends = {20, 50, 90, 140, 200, 270};
        x.set(0, 1);
        x.set(1, 9);
        for (int held = 0; held <= 70; held++) {
            x.set(2, held);
            int decided = 0;
            while (ends[decided] <= 6 + held) {
                decided++;
            }
            CHECKS.due("day(1) when it sinks at " + (6 + held), x.day(1), decided);
            CHECKS.due("day(2) then", x.day(2), decided);
            CHECKS.due("it is sunk", x.over(decided, 1), 1);
            CHECKS.due("the next one waits", x.over(decided + 1, 1), 2);
        }
    }

    // "(One is SUNK only if there is one that is not DECIDED.)"
    private static void oneIsSunkOnlyIfNotDecided() {
        CandleCourt x = Checks.court(SIX);
        x.set(0, 9);
        x.set(1, 2);
        CHECKS.due("it sinks just when the last is over", x.day(0), 270);
        CHECKS.due("all are decided", x.day(1), 6);
        CHECKS.due("none is sunk", x.day(2), Checks.NONE);
        CHECKS.due("the plaintiffs have theirs alone", x.won(0), 42);
        x.set(0, 8);
        x.set(2, 29);
        CHECKS.due("a second sooner", x.day(0), 269);
        CHECKS.due("the last is not decided", x.day(1), 5);
        CHECKS.due("it is sunk", x.day(2), 5);
    }

    private static void shortOnesBehindWait() {
        CandleCourt x = Checks.court("5+5=1d;500+500=2d;1+1=4d;1+1=8d");
        CHECKS.due("no later one is decided", x.day(1), 1);
        CHECKS.due("the long one is sunk", x.day(2), 1);
        CHECKS.due("a short one waits", x.over(2, 1), 2);
        CHECKS.due("and the other", x.over(3, 1), 2);
        CHECKS.due("worths decided", x.won(3), 1);
    }

    // "when a SUIT is over (if nothing sank)"
    private static void overIfNothingSank() {
        CandleCourt x = Checks.court("999+999=1p;999+999=1p;999+999=1p;999+999=1p;1+2=1p");
        Checks.lay(x, "31420");
        int[] want = {7995, 3996, 5997, 1998, 3999};
        int[] weights = {1, 99};
        for (int weight : weights) {
            x.set(0, weight);
            for (int suit = 0; suit < 5; suit++) {
                CHECKS.due("over(" + suit + ", 0)", x.over(suit, 0), want[suit]);
            }
        }
        for (int what : new int[] {Checks.MIN, -1, 2, Checks.MAX}) {
            CHECKS.due("over(4, " + what + ")", x.over(4, what), Checks.OUTSIDE);
            CHECKS.due("UNKNOWN goes ahead of OUTSIDE", x.over(5, what), Checks.UNKNOWN);
        }
        for (int suit : new int[] {Checks.MIN, -1, 5, 6, Checks.MAX}) {
            CHECKS.due("over(" + suit + ", 0)", x.over(suit, 0), Checks.UNKNOWN);
        }
    }

    // "1: 0 DECIDED, 1 SUNK, 2 it waits", by the order, not by numbers
    private static void fates() {
        CandleCourt x = Checks.court(SIX);
        Checks.lay(x, "524130");
        int[] ends = {70, 110, 170, 200, 250, 270};
        int[] order = {5, 2, 4, 1, 3, 0};
        x.set(0, 1);
        for (int held = 0; held <= 210; held += 10) {
            x.set(2, held);
            int decided = 0;
            for (int end : ends) {
                decided += end <= 60 + held ? 1 : 0;
            }
            for (int i = 0; i < 6; i++) {
                CHECKS.due("over(" + order[i] + ", 1) held " + held, x.over(order[i], 1),
                    i < decided ? 0 : i == decided ? 1 : 2);
            }
            CHECKS.due("day(2) held " + held, x.day(2), decided < 6 ? order[decided] : Checks.NONE);
        }
    }

    // "worths of those DECIDED by who wins, of the SUNK one by THE LAW", whoever would win it
    private static void theSunkOneByTheLaw() {
        for (String winner : new String[] {"p", "d"}) {
            CandleCourt x = Checks.court("10+10=1d;10+10=2p;100+1=40" + winner);
            x.set(0, 2);
            CHECKS.won(x, 42, 1, 0, 3);
            x.set(3, 1);
            CHECKS.won(x, 2, 1, 40, 3);
            x.set(2, 21);
            CHECKS.won(x, winner.equals("p") ? 42 : 2, winner.equals("d") ? 41 : 1, 0, 43);
        }
    }

    private static void nothingForThoseWhoWait() {
        CandleCourt x = Checks.court("30+31=1d;1+1=2d;1+1=4p;1+1=8p");
        x.set(0, 1);
        CHECKS.won(x, 1, 0, 0, 0);
        x.set(3, 1);
        CHECKS.won(x, 0, 0, 1, 0);
    }

    private static void greatestAndLeastWorths() {
        CandleCourt x = Checks.court("1+1=999p;1+1=999d;1+1=999p;1+1=999p;1+1=999p;1+1=999d");
        CHECKS.won(x, 3996, 1998, 0, 5994);
        CandleCourt y = Checks.court("1+1=0p;1+1=0d;999+1=0p");
        CHECKS.won(y, 0, 0, 0, 0);
        y.set(3, 1);
        CHECKS.won(y, 0, 0, 0, 0);
        CHECKS.won(new CandleCourt(), 0, 0, 0, 0);
    }

    private static void wonRefused() {
        for (int side : new int[] {Checks.MIN, -1, 4, Checks.MAX}) {
            CHECKS.due("won(" + side + ")", Checks.court(FOUR).won(side), Checks.OUTSIDE);
            CHECKS.due("won(" + side + ") without suits", new CandleCourt().won(side), Checks.OUTSIDE);
        }
    }

    // "of all orders the first by numbers"
    private static void firstOrderByNumbers() {
        CandleCourt x = Checks.court("10+10=5p;10+10=5p;10+10=5p;10+10=5d;10+10=5d");
        x.set(0, 1);
        Checks.lay(x, "43210");
        CHECKS.best(x, 0, 20, "01234");
        CHECKS.best(x, 1, 10, "03412");
        CHECKS.best(x, 2, 0, "01234");
        CHECKS.best(x, 3, 15, "01234");
        x.set(3, 1);
        CHECKS.best(x, 0, 15, "01234");
        CHECKS.best(x, 2, 5, "01234");
        CHECKS.due("the order laid stays", x.told(10), 4);
    }

    /** All but one are decided: the poor box has the dearest one when it is the last. */
    private static void orderOfSix() {
        CandleCourt x = Checks.court("10+10=9d;10+10=2p;10+10=4d;10+10=8p;10+10=6d;10+10=3p");
        Checks.stub(x, 1, 1, 59, 1);
        CHECKS.best(x, 2, 9, "123450");
        CHECKS.best(x, 3, 30, "023451");
        CHECKS.best(x, 0, 13, "012354");
        CHECKS.best(x, 1, 19, "012345");
        Checks.stub(x, 1, 9, 0, 0);
        CHECKS.best(x, 0, 9, "012345");
        Checks.stub(x, 1, 9, 14, 0);
        CHECKS.best(x, 0, 17, "301245");
        CHECKS.best(x, 1, 9, "012345");
        CHECKS.best(x, 3, 9, "012345");
        Checks.stub(x, 99, 1, 0, 0);
        CHECKS.best(x, 0, 13, "012345");
        CandleCourt y = Checks.court("9+9=1d;8+8=2d;7+7=4d;6+6=8d;5+5=16d;4+4=32d");
        Checks.stub(y, 1, 9, 2, 0);
        CHECKS.best(y, 3, 32, "501234");
        Checks.stub(y, 1, 9, 12, 0);
        CHECKS.best(y, 3, 48, "450123");
        CHECKS.best(y, 0, 32, "051234");
        Checks.stub(y, 1, 9, 24, 0);
        CHECKS.best(y, 3, 56, "345012");
        CHECKS.best(y, 0, 32, "035124");
    }

    // "what the side has (i = -1), the i-th SUIT; NONE: there is none such (i below -1, too). OUTSIDE: the side."
    private static void orderTold() {
        CandleCourt x = Checks.court(FOUR);
        CandleCourt none = new CandleCourt();
        for (int side = 0; side < 4; side++) {
            for (int i : new int[] {Checks.MIN, -3, -2, 4, 5, 6, Checks.MAX}) {
                CHECKS.due("order(" + side + ", " + i + ")", x.order(side, i), Checks.NONE);
                CHECKS.due("order without suits", none.order(side, i), Checks.NONE);
            }
            CHECKS.due("order(" + side + ", 0) without suits", none.order(side, 0), Checks.NONE);
            CHECKS.due("order(" + side + ", -1) without suits", none.order(side, -1), 0);
        }
        for (int side : new int[] {Checks.MIN, -1, 4, Checks.MAX}) {
            for (int i = -2; i <= 4; i++) {
                CHECKS.due("order(" + side + ", " + i + ")", x.order(side, i), Checks.OUTSIDE);
                CHECKS.due("order without suits", none.order(side, i), Checks.OUTSIDE);
            }
        }
    }

    // "the least weight by which all SUITS of a set are DECIDED, in the order as it is, THE FINGER as it is"
    private static void waxOfEverySet() {
        for (String order : new String[] {"012345", "524130", "543210"}) {
            for (int set = 0; set < 64; set++) {
                CandleCourt x = Checks.court(SIX);
                Checks.lay(x, order);
                Checks.stub(x, 99, 8, 11, 0);
                int wax = x.wax(set);
                x.set(0, wax);
                CHECKS.holds("by wax(" + set + ") all are decided", allDecided(x, set));
                if (wax > 1) {
                    x.set(0, wax - 1);
                    CHECKS.holds("by one less they are not", !allDecided(x, set));
                }
            }
        }
    }

    private static boolean allDecided(CandleCourt x, int set) {
        for (int suit = 0; suit < 6; suit++) {
            if ((set >> suit & 1) == 1 && x.over(suit, 1) != 0) {
                return false;
            }
        }
        return true;
    }

    // "NONE: not by 99"; of no SUITS the least weight there is does
    private static void waxAtNinetyNine() {
        CandleCourt x = Checks.court("999+999=1p;999+999=1p;999+945=1p;1+1=1p");
        CHECKS.due("5940 seconds by 99", x.wax(4), 99);
        CHECKS.due("5942 seconds", x.wax(8), Checks.NONE);
        CHECKS.due("5942 seconds with others", x.wax(15), Checks.NONE);
        x.set(2, 1);
        CHECKS.due("a second held", x.wax(8), Checks.NONE);
        x.set(2, 2);
        CHECKS.due("two seconds held", x.wax(8), 99);
        x.set(2, 62);
        CHECKS.due("62 seconds held", x.wax(8), 98);
        CHECKS.due("wax(0)", x.wax(0), 1);
        CHECKS.due("wax(0) without suits", new CandleCourt().wax(0), 1);
        CHECKS.due("the weight stays", x.told(1), 10);
    }

    private static void setsOf(CandleCourt x, int many) {
        int sets = 1 << many;
        for (int set : new int[] {Checks.MIN, -1, sets, sets + 1, 2 * sets, 64, 65536, Checks.MAX}) {
            CHECKS.due("wax(" + set + ") of " + many, x.wax(set), Checks.OUTSIDE);
            CHECKS.due("finger(" + set + ") of " + many, x.finger(set), Checks.OUTSIDE);
        }
        CHECKS.due("wax of all of " + many, x.wax(sets - 1), 1);
        CHECKS.due("finger of all of " + many, x.finger(sets - 1), 0);
    }

    // "OUTSIDE: bits of SUITS"
    private static void setsRefused() {
        String six = "1+1=1p;1+1=1p;1+1=1d;1+1=1p;1+1=1p;1+1=1d";
        for (int many = 0; many <= 6; many++) {
            CandleCourt x = Checks.court(six.substring(0, Math.max(0, 7 * many - 1)));
            x.set(2, 6);
            setsOf(x, many);
        }
    }

    // "the fewest seconds HELD (0 to 999) likewise", "NONE: not by 999"
    private static void fingerAtItsEdges() {
        String[] texts = {"30+30=1p", "30+31=1p", "60+998=1p", "60+999=1p", "61+999=1p", "999+999=1p"};
        int[] want = {0, 1, 998, 999, Checks.NONE, Checks.NONE};
        for (int held : new int[] {0, 500, 999}) {
            for (int i = 0; i < texts.length; i++) {
                CandleCourt x = Checks.court(texts[i]);
                Checks.stub(x, 1, 1, held, 0);
                CHECKS.due("finger(1) of " + texts[i] + ", held " + held, x.finger(1), want[i]);
                CHECKS.due("finger(0) of it", x.finger(0), 0);
                CHECKS.due("held stays", x.told(3), held);
            }
        }
        CHECKS.due("finger(0) without suits", new CandleCourt().finger(0), 0);
    }

    private static void fingerByTheOrder() {
        CandleCourt x = Checks.court("30+30=1p;200+200=1p;300+300=1p");
        x.set(0, 1);
        x.set(1, 7);
        int[] want = {0, 52, 452, 452, Checks.NONE, Checks.NONE, Checks.NONE, Checks.NONE};
        for (int set = 0; set < 8; set++) {
            CHECKS.due("finger(" + set + ") by 012", x.finger(set), want[set]);
        }
        Checks.lay(x, "201");
        int[] then = {0, 652, Checks.NONE, Checks.NONE, 592, 652, Checks.NONE, Checks.NONE};
        for (int set = 0; set < 8; set++) {
            CHECKS.due("finger(" + set + ") by 201", x.finger(set), then[set]);
        }
    }

    // "how many seconds longer the speeches of a SUIT together must be, at least, so that it is not DECIDED"
    private static void drawnOutIsTheLeast() {
        int[] lasts = {20, 30, 40, 50, 60, 70};
        int[] order = {5, 2, 4, 1, 3, 0};
        for (int suit = 0; suit < 6; suit++) {
            CandleCourt x = Checks.court(SIX);
            Checks.stub(x, 2, 1, 150, 0);
            Checks.lay(x, "524130");
            int longer = x.drawnOut(suit);
            CHECKS.due("decided when drawn out by one less", fateOf(suit, order, lasts, longer - 1), 0);
            CHECKS.due("sunk when drawn out by so many", fateOf(suit, order, lasts, longer), 1);
        }
    }

    private static int fateOf(int suit, int[] order, int[] lasts, int longer) {
        StringBuilder text = new StringBuilder();
        for (int i = 0; i < 6; i++) {
            text.append(i == 0 ? "" : ";").append(lasts[i] - 1 + (i == suit ? longer : 0)).append("+1=1p");
        }
        CandleCourt x = Checks.court(text.toString());
        Checks.stub(x, 2, 1, 150, 0);
        Checks.lay(x, "524130");
        return x.over(order[0], 0) > 0 ? x.over(suit, 1) : Checks.NONE;
    }

    // "0: it is not DECIDED now"
    private static void drawnOutOfThoseNotDecided() {
        CandleCourt x = Checks.court("30+30=1p;1+1=1p;1+1=1p");
        Checks.stub(x, 1, 9, 53, 0);
        CHECKS.due("sunk by a second", x.drawnOut(0), 0);
        x.set(2, 54);
        CHECKS.due("over just then", x.drawnOut(0), 1);
        CHECKS.due("sunk", x.drawnOut(1), 0);
        CHECKS.due("it waits", x.drawnOut(2), 0);
        x.set(2, 55);
        CHECKS.due("over a second sooner", x.drawnOut(0), 2);
        CHECKS.due("sunk by a second", x.drawnOut(1), 0);
        x.set(2, 999);
        CHECKS.due("999 seconds held", x.drawnOut(0), 946);
        CHECKS.due("the last of three", x.drawnOut(2), 942);
        for (int suit : new int[] {Checks.MIN, -1, 3, 6, Checks.MAX}) {
            CHECKS.due("drawnOut(" + suit + ")", x.drawnOut(suit), Checks.UNKNOWN);
        }
        CandleCourt y = Checks.court("1+1=1p");
        Checks.stub(y, 99, 1, 999, 0);
        CHECKS.due("the longest that can be", y.drawnOut(0), 6938);
    }
}
