/** Promises 9 to 15: a day, what is won, orders, wax, the finger, speeches drawn out. */
public final class DaysTest {
    private static final Checks CHECKS = new Checks();
    private static final String FOUR = "50+50=10p;60+40=20d;20+20=5d;90+90=90p";

    public static void main(String[] args) {
        whenItSinks();
        justThen();
        ends();
        won();
        orders();
        wax();
        finger();
        drawnOut();
        CHECKS.end("DaysTest");
    }

    private static void whenItSinks() {
        CandleCourt x = new CandleCourt();
        int[][] cases = {{1, 9, 0, 6}, {1, 7, 0, 8}, {99, 1, 999, 6939}, {99, 7, 0, 848}, {10, 3, 5, 205}, {1, 1, 0, 60}};
        for (int[] c : cases) {
            x.set(0, c[0]);
            x.set(1, c[1]);
            x.set(2, c[2]);
            CHECKS.due("day(0)", x.day(0), c[3]);
        }
        CHECKS.due("day(-1)", x.day(-1), CandleCourt.OUTSIDE);
        CHECKS.due("day(3)", x.day(3), CandleCourt.OUTSIDE);
        CHECKS.due("day(2) without suits", x.day(2), CandleCourt.NONE);
    }

    /** Two suits of 60 and 1 seconds round a stub of 60: over just then, sunk with no second over. */
    private static void justThen() {
        CandleCourt x = Checks.court("30+30=3p;1+1=4d;1+1=5p");
        x.set(0, 1);
        CHECKS.due("decided just then", x.day(1), 1);
        CHECKS.due("sunk with no second over", x.day(2), 1);
        CHECKS.due("fate of 0", x.over(0, 1), 0);
        CHECKS.due("fate of 1", x.over(1, 1), 1);
        CHECKS.due("fate of 2", x.over(2, 1), 2);
        x.set(2, 1);
        CHECKS.due("sunk with one second over", x.day(2), 1);
        x.set(2, 2);
        CHECKS.due("decided with two seconds held", x.day(1), 2);
        CHECKS.due("sunk then", x.day(2), 2);
        x.set(2, 4);
        CHECKS.due("all decided", x.day(1), 3);
        CHECKS.due("none sunk", x.day(2), CandleCourt.NONE);
        Checks.lay(x, "210");
        x.set(2, 3);
        CHECKS.due("sunk is told by its number", x.day(2), 0);
        CHECKS.due("decided in another order", x.day(1), 2);
    }

    private static void ends() {
        CandleCourt x = Checks.court(FOUR);
        Checks.lay(x, "2031");
        x.set(1, 4);
        int[] over = {140, 420, 40, 320};
        int[] fate = {0, 2, 0, 1};
        for (int suit = 0; suit < 4; suit++) {
            CHECKS.due("over(" + suit + ", 0)", x.over(suit, 0), over[suit]);
            CHECKS.due("over(" + suit + ", 1)", x.over(suit, 1), fate[suit]);
        }
        CHECKS.due("over(0, -1)", x.over(0, -1), CandleCourt.OUTSIDE);
        CHECKS.due("over(0, 2)", x.over(0, 2), CandleCourt.OUTSIDE);
        CHECKS.due("over(4, 0)", x.over(4, 0), CandleCourt.UNKNOWN);
        CHECKS.due("over(-1, 2)", x.over(-1, 2), CandleCourt.UNKNOWN);
    }

    private static void won() {
        CandleCourt x = Checks.court(FOUR);
        CHECKS.won(x, 100, 25, 0, 125);
        x.set(1, 4);
        CHECKS.won(x, 10 + 20, 0, 0, 10);
        x.set(3, 1);
        CHECKS.won(x, 10, 0, 20, 10);
        x.set(1, 3);
        CHECKS.won(x, 10, 20, 5, 30);
        x.set(3, 0);
        CHECKS.won(x, 15, 20, 0, 30);
        CHECKS.due("won(-1)", x.won(-1), CandleCourt.OUTSIDE);
        CHECKS.due("won(4)", x.won(4), CandleCourt.OUTSIDE);
        CHECKS.won(new CandleCourt(), 0, 0, 0, 0);
    }

    private static void orders() {
        CandleCourt x = Checks.court(FOUR);
        x.set(1, 3);
        Checks.lay(x, "1230");
        CHECKS.best(x, 0, 110, "3102");
        CHECKS.best(x, 1, 25, "1203");
        CHECKS.best(x, 2, 0, "0123");
        CHECKS.best(x, 3, 90, "3012");
        x.set(3, 1);
        CHECKS.best(x, 0, 90, "3012");
        CHECKS.best(x, 2, 90, "0132");
        CHECKS.due("the order itself stays", x.told(10), 1);
        CHECKS.due("order(-1, 0)", x.order(-1, 0), CandleCourt.OUTSIDE);
        CHECKS.due("order(4, -1)", x.order(4, -1), CandleCourt.OUTSIDE);
        CHECKS.due("order(4, 9)", x.order(4, 9), CandleCourt.OUTSIDE);
        CHECKS.due("order(0, -2)", x.order(0, -2), CandleCourt.NONE);
        CHECKS.best(new CandleCourt(), 3, 0, "");
        CHECKS.best(Checks.court("1+1=0p"), 0, 0, "0");
    }

    private static void wax() {
        CandleCourt x = Checks.court(FOUR);
        Checks.lay(x, "2031");
        int[] want = {1, 3, 7, 7, 1, 3, 7, 7, 6, 6, 7, 7, 6, 6, 7, 7};
        for (int set = 0; set < 16; set++) {
            CHECKS.due("wax(" + set + ")", x.wax(set), want[set]);
        }
        x.set(1, 9);
        CHECKS.due("wax(1) by a wider hole", x.wax(1), 21);
        x.set(2, 140);
        CHECKS.due("wax(1) by the finger alone", x.wax(1), 1);
        CHECKS.due("wax(2) by the finger", x.wax(2), 42);
        CHECKS.due("wax(-1)", x.wax(-1), CandleCourt.OUTSIDE);
        CHECKS.due("wax(16)", x.wax(16), CandleCourt.OUTSIDE);
        CandleCourt y = Checks.court("660+660=1p;1+999=1p");
        y.set(1, 9);
        y.set(2, 660);
        CHECKS.due("wax by just 99", y.wax(1), 99);
        y.set(2, 659);
        CHECKS.due("wax by no stub", y.wax(1), CandleCourt.NONE);
        CHECKS.due("wax of no suits", y.wax(0), 1);
    }

    private static void finger() {
        CandleCourt x = Checks.court("500+501=1p;999+1=1p");
        x.set(0, 1);
        x.set(1, 9);
        CHECKS.due("finger(1)", x.finger(1), 995);
        CHECKS.due("finger(2)", x.finger(2), CandleCourt.NONE);
        CHECKS.due("finger(0)", x.finger(0), 0);
        x.set(2, 500);
        CHECKS.due("finger(1) while held", x.finger(1), 995);
        Checks.lay(x, "10");
        CHECKS.due("finger(2) pleaded first", x.finger(2), 994);
        CHECKS.due("finger(3)", x.finger(3), CandleCourt.NONE);
        x.set(1, 1);
        x.set(0, 17);
        CHECKS.due("finger by 981", x.finger(3), 981);
        x.set(0, 99);
        CHECKS.due("finger not needed", x.finger(3), 0);
        CHECKS.due("finger(4)", x.finger(4), CandleCourt.OUTSIDE);
        CHECKS.due("finger(-1)", x.finger(-1), CandleCourt.OUTSIDE);
        CandleCourt y = Checks.court("6+999=1p;1+1=1p");
        y.set(0, 1);
        y.set(1, 9);
        CHECKS.due("finger by just 999", y.finger(1), 999);
        CHECKS.due("finger by 1001", y.finger(2), CandleCourt.NONE);
    }

    private static void drawnOut() {
        CandleCourt x = Checks.court("30+30=3p;1+1=4d;1+1=5p");
        x.set(0, 1);
        CHECKS.due("one second is enough", x.drawnOut(0), 1);
        CHECKS.due("sunk anyhow", x.drawnOut(1), 0);
        CHECKS.due("waiting anyhow", x.drawnOut(2), 0);
        Checks.lay(x, "120");
        CHECKS.due("drawnOut(1)", x.drawnOut(1), 59);
        CHECKS.due("drawnOut(2)", x.drawnOut(2), 57);
        CHECKS.due("drawnOut(0)", x.drawnOut(0), 0);
        CHECKS.due("drawnOut(3)", x.drawnOut(3), CandleCourt.UNKNOWN);
        CHECKS.due("drawnOut(-1)", x.drawnOut(-1), CandleCourt.UNKNOWN);
    }
}
