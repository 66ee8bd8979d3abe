/** Counts the calls whose answer is not the one that is due. */
final class Checks {
    static final int UNKNOWN = CandleCourt.UNKNOWN;
    static final int OUTSIDE = CandleCourt.OUTSIDE;
    static final int STATE = CandleCourt.STATE;
    static final int FULL = CandleCourt.FULL;
    static final int NO = CandleCourt.NO;
    static final int NONE = CandleCourt.NONE;
    static final int MIN = Integer.MIN_VALUE;
    static final int MAX = Integer.MAX_VALUE;

    private int wrong = 0;
    private int asked = 0;

    void due(String call, long got, long want) {
        asked++;
        if (got != want) {
            wrong++;
            System.out.println(call + " answered " + got + ", due is " + want);
        }
    }

    void holds(String what, boolean so) {
        due(what, so ? 1 : 0, 1);
    }

    void same(String what, String got, String want) {
        asked++;
        if (!got.equals(want)) {
            wrong++;
            System.out.println(what + ": " + got + ", due is " + want);
        }
    }

    void end(String name) {
        System.out.println(name + ": " + asked + " answers, " + wrong + " not as due");
        if (wrong != 0 || asked == 0) {
            System.exit(1);
        }
    }

    void won(CandleCourt x, int plaintiffs, int defendants, int poor, int worths) {
        int[] want = {plaintiffs, defendants, poor, worths};
        for (int side = 0; side < 4; side++) {
            due("won(" + side + ")", x.won(side), want[side]);
        }
    }

    /** What a side has at most, and by which order. */
    void best(CandleCourt x, int side, int has, String order) {
        due("order(" + side + ", -1)", x.order(side, -1), has);
        for (int i = 0; i < order.length(); i++) {
            due("order(" + side + ", " + i + ") of " + order, x.order(side, i), order.charAt(i) - '0');
        }
        due("order(side, suits)", x.order(side, order.length()), NONE);
    }

    void stall(CandleCourt x, int t, int m, int tens, int moves) {
        due("stall(" + t + ", " + m + ", 0)", x.stall(t, m, 0), tens);
        due("stall(" + t + ", " + m + ", 1)", x.stall(t, m, 1), moves);
    }

    void likely(CandleCourt x, int suit, int longer, int c, long upper, long lower) {
        String call = "likely(" + suit + ", " + longer + ", " + c;
        due(call + ", 0)", x.likely(suit, longer, c, 0), upper);
        due(call + ", 1)", x.likely(suit, longer, c, 1), lower);
    }

    void mean(CandleCourt x, int side, int longer, int c, long upper, long lower) {
        String call = "mean(" + side + ", " + longer + ", " + c;
        due(call + ", 0)", x.mean(side, longer, c, 0), upper);
        due(call + ", 1)", x.mean(side, longer, c, 1), lower);
    }

    void term(CandleCourt x, int days, int plaintiffs, int defendants, int poor, int worths) {
        int[] want = {days, plaintiffs, defendants, poor, worths};
        for (int side = -1; side < 4; side++) {
            due("term(" + side + ")", x.term(side), want[side + 1]);
        }
    }

    /** Says every sign of a text. */
    static void say(CandleCourt court, String text) {
        for (int i = 0; i < text.length(); i++) {
            court.say(text.charAt(i));
        }
    }

    /** A new court with these suits. */
    static CandleCourt court(String text) {
        CandleCourt court = new CandleCourt();
        say(court, text);
        court.suits();
        return court;
    }

    static void lay(CandleCourt court, String order) {
        say(court, order);
        court.lay();
    }

    /** The stub's weight, the hole, held seconds, the law. */
    static void stub(CandleCourt court, int weight, int hole, int held, int law) {
        court.set(0, weight);
        court.set(1, hole);
        court.set(2, held);
        court.set(3, law);
    }

    /** All that can be asked without a change, but for what is in the images: some hundred calls. */
    static String state(CandleCourt x) {
        StringBuilder text = new StringBuilder("told");
        for (int what = 0; what <= 15; what++) {
            text.append(' ').append(x.told(what));
        }
        text.append(" suits");
        for (int suit = 0; suit < x.told(5); suit++) {
            for (int what = 0; what < 4; what++) {
                text.append(' ').append(x.suit(suit, what));
            }
            text.append(' ').append(x.over(suit, 0)).append(' ').append(x.over(suit, 1));
        }
        text.append(" day ").append(x.day(0)).append(' ').append(x.day(1)).append(' ').append(x.day(2));
        text.append(" won");
        for (int side = 0; side < 4; side++) {
            text.append(' ').append(x.won(side));
        }
        text.append(" fits ").append(x.fits());
        return text.append(" faults ").append(x.fault(0)).append(' ').append(x.fault(1)).toString();
    }
}
