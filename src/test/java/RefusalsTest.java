import java.util.function.ToLongFunction;

/** "Calls that are refused answer, the first of these that fits ..": every refusal, and that it changes nothing. */
public final class RefusalsTest {
    private static final Checks CHECKS = new Checks();
    private static final String FOUR = "50+50=10p;60+40=20d;20+20=5d;90+90=90p";

    /** Beyond 0 to 3, as suits, sides and what is asked of a suit are. */
    private static final int[] BEYOND = {Checks.MIN, -2, -1, 4, 5, 6, 7, 100, 65536, Checks.MAX};

    public static void main(String[] args) {
        settings();
        signs();
        faults();
        parts();
        days();
        sets();
        stalls();
        fractions();
        terms();
        sights();
        years();
        images();
        told();
        CHECKS.end("RefusalsTest");
    }

    /** Four suits in another order, two sights, image 0 (not 1), a pad with a fault: nothing is as at first. */
    private static CandleCourt rich() {
        CandleCourt x = Checks.court("7+7=7d");
        Checks.stub(x, 33, 3, 30, 0);
        x.seen(33, 1);
        x.image(0);
        Checks.say(x, FOUR);
        x.suits();
        Checks.stub(x, 11, 4, 20, 1);
        Checks.lay(x, "2031");
        x.seen(10, 2);
        x.seen(11, 3);
        Checks.say(x, "12+");
        return x;
    }

    private static void refused(String call, ToLongFunction<CandleCourt> made, long want) {
        CandleCourt x = rich();
        String before = Checks.state(x);
        CHECKS.due(call, made.applyAsLong(x), want);
        CHECKS.same("after " + call, Checks.state(x), before);
        CHECKS.due("image 1 is not kept after " + call, x.restore(1), Checks.STATE);
        CHECKS.due("image 0 is kept after " + call, x.restore(0), 1);
        CHECKS.due("and is as it was", 10000 * x.told(1) + 1000 * x.told(2) + 10 * x.told(3) + x.told(5), 333301);
    }

    private static void settings() {
        int[] least = {1, 1, 0, 0};
        int[] most = {99, 9, 999, 1};
        for (int which = 0; which < 4; which++) {
            int of = which;
            for (int v : new int[] {Checks.MIN, least[of] - 2, least[of] - 1, most[of] + 1, most[of] + 2, Checks.MAX}) {
                refused("set(" + of + ", " + v + ")", x -> x.set(of, v), Checks.OUTSIDE);
            }
        }
        for (int which : BEYOND) {
            for (int v : new int[] {0, 1, 9, 99}) {
                refused("set(" + which + ", " + v + ")", x -> x.set(which, v), Checks.OUTSIDE);
            }
        }
    }

    private static void signs() {
        for (int sign : new int[] {Checks.MIN, -1, 0, 9, 10, 32, 127, 128, 255, 256 + 49, Checks.MAX}) {
            refused("say(" + sign + ")", x -> x.say(sign), Checks.OUTSIDE);
        }
        CandleCourt full = rich();
        for (int i = 3; i < 60; i++) {
            full.say('~');
        }
        String before = Checks.state(full);
        for (int sign = 33; sign <= 126; sign++) {
            CHECKS.due("say(" + sign + ") on a full pad", full.say(sign), Checks.FULL);
        }
        CHECKS.due("say(32) on a full pad", full.say(32), Checks.OUTSIDE);
        CHECKS.due("say(127) on a full pad", full.say(127), Checks.OUTSIDE);
        CHECKS.same("after them", Checks.state(full), before);
    }

    private static void faults() {
        for (int how : new int[] {Checks.MIN, -1, 2, 3, Checks.MAX}) {
            refused("fault(" + how + ")", x -> x.fault(how), Checks.OUTSIDE);
        }
        refused("suits()", CandleCourt::suits, Checks.NO);
        refused("lay()", CandleCourt::lay, Checks.NO);
    }

    private static void parts() {
        for (int beyond : BEYOND) {
            refused("suit(3, " + beyond + ")", x -> x.suit(3, beyond), Checks.OUTSIDE);
            for (int what : new int[] {0, 3, 4, -1}) {
                refused("suit(" + beyond + ", " + what + ")", x -> x.suit(beyond, what), Checks.UNKNOWN);
                refused("over(" + beyond + ", " + what + ")", x -> x.over(beyond, what), Checks.UNKNOWN);
            }
            refused("over(3, " + beyond + ")", x -> x.over(3, beyond), Checks.OUTSIDE);
            refused("drawnOut(" + beyond + ")", x -> x.drawnOut(beyond), Checks.UNKNOWN);
        }
        refused("over(3, 2)", x -> x.over(3, 2), Checks.OUTSIDE);
    }

    private static void days() {
        refused("day(3)", x -> x.day(3), Checks.OUTSIDE);
        for (int beyond : BEYOND) {
            refused("day(" + beyond + ")", x -> x.day(beyond), Checks.OUTSIDE);
            refused("won(" + beyond + ")", x -> x.won(beyond), Checks.OUTSIDE);
            for (int i : new int[] {-2, -1, 0, 3, 4}) {
                refused("order(" + beyond + ", " + i + ")", x -> x.order(beyond, i), Checks.OUTSIDE);
            }
            int none = beyond == -1 ? -2 : beyond;
            refused("order(3, " + none + ")", x -> x.order(3, none), Checks.NONE);
        }
    }

    private static void sets() {
        for (int set : new int[] {Checks.MIN, -16, -1, 16, 17, 31, 32, 63, 64, Checks.MAX}) {
            refused("wax(" + set + ")", x -> x.wax(set), Checks.OUTSIDE);
            refused("finger(" + set + ")", x -> x.finger(set), Checks.OUTSIDE);
        }
    }

    private static void stalls() {
        int sinks = rich().day(0);
        CHECKS.due("it sinks", sinks, 185);
        int[][] wrong = {{-1, 1, 0}, {sinks + 1, 1, 0}, {Checks.MIN, 9, 1}, {Checks.MAX, 9, 1}, {0, 0, 0}, {0, 10, 0},
            {0, Checks.MIN, 1}, {0, Checks.MAX, 1}, {0, -1, 1}, {0, 1, -1}, {0, 1, 2}, {0, 1, Checks.MIN},
            {0, 1, Checks.MAX}};
        for (int[] w : wrong) {
            refused("stall(" + w[0] + ", " + w[1] + ", " + w[2] + ")", x -> x.stall(w[0], w[1], w[2]), Checks.OUTSIDE);
        }
    }

    private static void fractions() {
        long unknown = CandleCourt.GONE + Checks.UNKNOWN;
        long outside = CandleCourt.GONE + Checks.OUTSIDE;
        int[][] wrong = {{-1, 5, 0}, {1000, 5, 0}, {Checks.MIN, 5, 0}, {Checks.MAX, 5, 0}, {9, -1, 0}, {9, 11, 0},
            {9, Checks.MIN, 0}, {9, Checks.MAX, 0}, {9, 5, -1}, {9, 5, 2}, {9, 5, Checks.MIN}, {9, 5, Checks.MAX}};
        for (int[] w : wrong) {
            String rest = ", " + w[0] + ", " + w[1] + ", " + w[2] + ")";
            refused("likely(3" + rest, x -> x.likely(3, w[0], w[1], w[2]), outside);
            refused("likely(4" + rest, x -> x.likely(4, w[0], w[1], w[2]), unknown);
            refused("mean(3" + rest, x -> x.mean(3, w[0], w[1], w[2]), outside);
        }
        for (int beyond : BEYOND) {
            refused("likely(" + beyond + ", 9, 5, 0)", x -> x.likely(beyond, 9, 5, 0), unknown);
            refused("mean(" + beyond + ", 9, 5, 0)", x -> x.mean(beyond, 9, 5, 0), outside);
        }
    }

    private static void terms() {
        for (int beyond : BEYOND) {
            int side = beyond == -1 ? -3 : beyond;
            refused("term(" + side + ")", x -> x.term(side), Checks.OUTSIDE);
        }
    }

    private static void sights() {
        int[][] wrong = {{0, 2}, {-1, 2}, {100, 2}, {Checks.MIN, 2}, {Checks.MAX, 2}, {10, -1}, {10, 5}, {10, Checks.MIN},
            {10, Checks.MAX}};
        for (int[] w : wrong) {
            refused("seen(" + w[0] + ", " + w[1] + ")", x -> x.seen(w[0], w[1]), Checks.OUTSIDE);
        }
        CandleCourt full = rich();
        for (int i = 3; i <= 6; i++) {
            full.seen(10, 2);
        }
        String before = Checks.state(full);
        for (int[] w : wrong) {
            CHECKS.due("a wrong seventh sight", full.seen(w[0], w[1]), Checks.OUTSIDE);
        }
        CHECKS.due("a seventh sight", full.seen(10, 0), Checks.FULL);
        CHECKS.same("after them", Checks.state(full), before);
    }

    private static void years() {
        int[][] wrong = {{-1, 1, 0}, {10000, 1, 0}, {Checks.MIN, 1, 0}, {Checks.MAX, 1, 0}, {5, 0, 0}, {5, 100, 0},
            {5, -1, 0}, {5, Checks.MIN, 0}, {5, Checks.MAX, 0}, {5, 1, -2}, {5, 1, 4}, {5, 1, Checks.MIN},
            {5, 1, Checks.MAX}};
        for (int[] w : wrong) {
            refused("year(" + w[0] + ", " + w[1] + ", " + w[2] + ")", x -> x.year(w[0], w[1], w[2]), Checks.OUTSIDE);
        }
    }

    private static void images() {
        for (int n : new int[] {Checks.MIN, -1, 2, 3, Checks.MAX}) {
            refused("image(" + n + ")", x -> x.image(n), Checks.OUTSIDE);
            refused("restore(" + n + ")", x -> x.restore(n), Checks.OUTSIDE);
        }
        refused("restore(1)", x -> x.restore(1), Checks.STATE);
    }

    private static void told() {
        for (int what : new int[] {Checks.MIN, -1, 7, 8, 9, 14, 15, 16, 100, Checks.MAX}) {
            refused("told(" + what + ")", x -> x.told(what), Checks.OUTSIDE);
        }
    }
}
