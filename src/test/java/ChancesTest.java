/** Promises 16 to 19: advocates, chances, a term. */
public final class ChancesTest {
    private static final Checks CHECKS = new Checks();

    public static void main(String[] args) {
        stall();
        stallRefused();
        likely();
        mean();
        chancesRefused();
        term();
        CHECKS.end("ChancesTest");
    }

    private static void stall() {
        CandleCourt x = new CandleCourt();
        CHECKS.stall(x, 600, 9, CandleCourt.NONE, 1);
        CHECKS.stall(x, 591, 9, CandleCourt.NONE, 1);
        CHECKS.stall(x, 590, 9, 1, 2);
        CHECKS.stall(x, 510, 9, 9, 2);
        CHECKS.stall(x, 500, 9, CandleCourt.NONE, 3);
        CHECKS.stall(x, 490, 9, 1, 4);
        CHECKS.stall(x, 0, 1, CandleCourt.NONE, 61);
        CHECKS.stall(x, 1, 1, 1, 60);
        CHECKS.stall(x, 0, 6, 4, 18);
        x.set(2, 9);
        CHECKS.stall(x, 609, 5, CandleCourt.NONE, 1);
        CHECKS.stall(x, 0, 9, CandleCourt.NONE, 13);
    }

    private static void stallRefused() {
        CandleCourt x = new CandleCourt();
        int[][] wrong = {{-1, 1, 0}, {601, 1, 0}, {0, 0, 0}, {0, 10, 0}, {0, 1, -1}, {0, 1, 2}};
        for (int[] w : wrong) {
            CHECKS.due("stall refused", x.stall(w[0], w[1], w[2]), CandleCourt.OUTSIDE);
        }
    }

    /** 600 seconds; three suits of 100 each: one of them longer by 300 is still well. */
    private static void likely() {
        CandleCourt x = Checks.court("50+50=10p;50+50=20d;50+50=40d");
        CHECKS.likely(x, 0, 300, 5, 1, 1);
        CHECKS.likely(x, 1, 301, 5, 3, 4);
        CHECKS.likely(x, 2, 300, 5, 1, 2);
        CHECKS.likely(x, 2, 301, 3, 343, 1000);
        CHECKS.likely(x, 2, 300, 3, 98, 125);
        CHECKS.likely(x, 2, 999, 1, 729, 1000);
        CHECKS.likely(x, 2, 999, 0, 1, 1);
        CHECKS.likely(x, 2, 999, 10, 0, 1);
        CHECKS.likely(x, 2, 0, 5, 1, 1);
        CHECKS.likely(x, 0, 501, 10, 0, 1);
        CHECKS.likely(x, 0, 500, 10, 1, 1);
        Checks.lay(x, "210");
        CHECKS.likely(x, 2, 300, 5, 1, 1);
        CHECKS.likely(x, 0, 300, 5, 1, 2);
    }

    private static void mean() {
        CandleCourt x = Checks.court("50+50=10p;50+50=20d;50+50=40d");
        CHECKS.mean(x, 3, 0, 10, 70, 1);
        CHECKS.mean(x, 3, 999, 0, 70, 1);
        CHECKS.mean(x, 0, 999, 0, 10, 1);
        CHECKS.mean(x, 1, 999, 0, 60, 1);
        CHECKS.mean(x, 2, 999, 0, 0, 1);
        CHECKS.mean(x, 0, 999, 10, 10, 1);
        CHECKS.mean(x, 1, 999, 10, 0, 1);
        // They are decided by 1, 3/4 and 1/2; 1 sinks by 1/4, 2 by 1/4.
        CHECKS.mean(x, 3, 300, 5, 45, 1);
        CHECKS.mean(x, 0, 300, 5, 25, 1);
        x.set(3, 1);
        CHECKS.mean(x, 0, 300, 5, 10, 1);
        CHECKS.mean(x, 2, 300, 5, 15, 1);
        CHECKS.mean(x, 2, 501, 1, 151, 25);
        CHECKS.mean(new CandleCourt(), 3, 5, 5, 0, 1);
    }

    private static void chancesRefused() {
        CandleCourt x = Checks.court("50+50=10p");
        long outside = CandleCourt.GONE + CandleCourt.OUTSIDE;
        long unknown = CandleCourt.GONE + CandleCourt.UNKNOWN;
        int[][] wrong = {{-1, 0, 0}, {1000, 0, 0}, {0, -1, 0}, {0, 11, 0}, {0, 0, -1}, {0, 0, 2}};
        for (int[] w : wrong) {
            CHECKS.due("likely refused", x.likely(0, w[0], w[1], w[2]), outside);
            CHECKS.due("likely of no suit", x.likely(1, w[0], w[1], w[2]), unknown);
            CHECKS.due("likely of no suit", x.likely(-1, w[0], w[1], w[2]), unknown);
            CHECKS.due("mean refused", x.mean(0, w[0], w[1], w[2]), outside);
        }
        CHECKS.due("likely(1, 0, 0, 0)", x.likely(1, 0, 0, 0), unknown);
        CHECKS.due("mean(-1, 0, 0, 0)", x.mean(-1, 0, 0, 0), outside);
        CHECKS.due("mean(4, 0, 0, 0)", x.mean(4, 0, 0, 0), outside);
        CHECKS.due("likely by 999 and 10 tenths", x.likely(0, 999, 10, 0), 0);
        CHECKS.due("mean by 999 and 10 tenths", x.mean(0, 999, 10, 1), 1);
    }

    private static void term() {
        CHECKS.term(new CandleCourt(), 0, 0, 0, 0, 0);
        CandleCourt x = Checks.court("30+30=1p;30+30=2d;60+60=4d;1+1=8p;58+1=16d;1+1=32p");
        x.set(0, 1);
        // 0 decided, 1 sunk; 2 sunk; 3 decided, 4 sunk; 5 decided.
        CHECKS.term(x, 4, 1 + 2 + 4 + 8 + 16 + 32, 0, 0, 41);
        x.set(3, 1);
        CHECKS.term(x, 4, 41, 0, 22, 41);
        x.set(2, 1);
        // 0 decided, 1 sunk; 2 sunk; 3 and 4 decided, 5 sunk: none waits.
        CHECKS.term(x, 3, 9, 16, 38, 25);
        x.set(0, 99);
        CHECKS.term(x, 1, 41, 22, 0, 63);
        Checks.lay(x, "543210");
        x.set(0, 1);
        x.set(2, 0);
        // 5 decided, 4 sunk; 3 decided, 2 sunk; 1 decided, 0 sunk.
        CHECKS.term(x, 3, 40, 2, 21, 42);
        CHECKS.term(Checks.court("300+301=1d;300+301=1d;300+301=1d;300+301=1d;300+301=1d"), 5, 5, 0, 0, 0);
        CandleCourt y = Checks.court("60+1=1d;60+1=1d;60+1=1d;60+1=1d;60+1=1d;60+1=1d");
        y.set(0, 1);
        CHECKS.term(y, 6, 6, 0, 0, 0);
        CHECKS.due("term(-2)", x.term(-2), CandleCourt.OUTSIDE);
        CHECKS.due("term(4)", x.term(4), CandleCourt.OUTSIDE);
    }
}
