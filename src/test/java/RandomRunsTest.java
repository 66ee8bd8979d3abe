/** Runs of drawn calls (by a written seed, always the same), each answered by the class and by Reference. */
public final class RandomRunsTest {
    private static final Checks CHECKS = new Checks();
    private static final int RUNS = 400;
    private static final int CALLS = 512;
    private static final int[] WILD = {Integer.MIN_VALUE, Integer.MAX_VALUE, -1000, -2, -1, 7, 64, 100, 10000, 65537};

    private long drawn;
    private int left;
    private CandleCourt court;
    private Reference reference;

    private RandomRunsTest(long seed) {
        drawn = seed;
    }

    public static void main(String[] args) {
        for (int run = 1; run <= RUNS; run++) {
            new RandomRunsTest(run * 7919L).run();
        }
        CHECKS.end("RandomRunsTest");
    }

    private void run() {
        court = new CandleCourt();
        reference = new Reference();
        left = CALLS;
        while (left > 0) {
            if (below(8) == 0) {
                tellSuits();
            } else if (below(8) == 0) {
                tellOrder();
            } else {
                call(below(40));
            }
        }
    }

    private int below(int bound) {
        drawn = drawn * 6364136223846793005L + 1442695040888963407L;
        return (int) ((drawn >>> 33) % bound);
    }

    private int number(int least, int most) {
        if (below(40) == 0) {
            return WILD[below(WILD.length)];
        }
        if (below(15) == 0) {
            return below(2) == 0 ? least - below(2) : most + below(2);
        }
        return least + below(most - least + 1);
    }

    private void due(String call, long got, long want) {
        left--;
        CHECKS.due(call, got, want);
    }

    private void say(String text) {
        for (int i = 0; i < text.length() && left > 0; i++) {
            int sign = text.charAt(i);
            due("say(" + sign + ")", court.say(sign), reference.say(sign));
        }
    }

    private void tellSuits() {
        StringBuilder text = new StringBuilder();
        int many = below(8);
        int longest = below(3) == 0 ? 999 : 90;
        for (int i = 0; i < many; i++) {
            text.append(i == 0 ? "" : ";").append(1 + below(longest)).append('+').append(1 + below(longest));
            text.append('=').append(below(longest + 1)).append(below(2) == 0 ? 'p' : 'd');
        }
        spoil(text, "0123456789+=pd;~");
        call(2);
        say(text.toString());
        call(3);
        call(4);
        call(5);
    }

    private void tellOrder() {
        int many = reference.told(5);
        StringBuilder text = new StringBuilder();
        for (int i = 0; i < many; i++) {
            text.insert(below(i + 1), i);
        }
        spoil(text, "0123456/:");
        call(2);
        say(text.toString());
        call(4);
        call(6);
    }

    private void spoil(StringBuilder text, String signs) {
        if (below(4) == 0 && text.length() > 0) {
            text.setCharAt(below(text.length()), signs.charAt(below(signs.length())));
        }
        if (below(8) == 0) {
            text.insert(below(text.length() + 1), signs.charAt(below(signs.length())));
        }
        if (below(8) == 0 && text.length() > 0) {
            text.setLength(below(text.length()));
        }
    }

    private void call(int which) {
        if (left <= 0) {
            return;
        }
        if (which < 12) {
            benchCall(which);
        } else if (which < 20) {
            dayCall(which);
        } else if (which < 30) {
            chanceCall(which);
        } else {
            holeCall(which);
        }
    }

    private void benchCall(int which) {
        int a = number(0, 3);
        int suit = number(0, 6);
        switch (which) {
            case 0: case 1: case 7: case 8:
                int v = number(a == 2 ? 0 : 1, a == 0 ? 99 : a == 1 ? 9 : a == 2 ? 999 : 1) - (a == 3 ? below(2) : 0);
                due("set(" + a + ", " + v + ")", court.set(a, v), reference.set(a, v));
                break;
            case 2: due("wipe()", court.wipe(), reference.wipe()); break;
            case 3: due("fault(0)", court.fault(0), reference.fault(0)); break;
            case 4: due("fault(1)", court.fault(1), reference.fault(1)); break;
            case 5: due("suits()", court.suits(), reference.suits()); break;
            case 6: due("lay()", court.lay(), reference.lay()); break;
            case 9: due("suit(" + suit + ", " + a + ")", court.suit(suit, a), reference.suit(suit, a)); break;
            case 10:
                int sign = number(33, 126);
                due("say(" + sign + ")", court.say(sign), reference.say(sign));
                break;
            default: due("fault(" + a + ")", court.fault(a), reference.fault(a)); break;
        }
    }

    private void dayCall(int which) {
        int side = number(0, 3);
        int suit = number(0, 6);
        int what = number(0, 1);
        int set = number(0, (1 << reference.told(5)) - 1);
        switch (which) {
            case 12: due("day(" + side + ")", court.day(side), reference.day(side)); break;
            case 13: case 14: due("over(" + suit + ", " + what + ")", court.over(suit, what), reference.over(suit, what)); break;
            case 15: due("won(" + side + ")", court.won(side), reference.won(side)); break;
            case 16:
                int i = number(-1, 5);
                due("order(" + side + ", " + i + ")", court.order(side, i), reference.order(side, i));
                break;
            case 17: due("wax(" + set + ")", court.wax(set), reference.wax(set)); break;
            case 18: due("finger(" + set + ")", court.finger(set), reference.finger(set)); break;
            default: due("drawnOut(" + suit + ")", court.drawnOut(suit), reference.drawnOut(suit)); break;
        }
    }

    private void chanceCall(int which) {
        int side = number(0, 3);
        int suit = number(0, 6);
        int longer = below(2) == 0 ? number(0, 100) : number(0, 999);
        int c = number(0, 10);
        int part = number(0, 1);
        String rest = ", " + longer + ", " + c + ", " + part + ")";
        switch (which) {
            case 20: case 21: case 22:
                due("likely(" + suit + rest, court.likely(suit, longer, c, part), reference.likely(suit, longer, c, part));
                break;
            case 23: case 24: case 25:
                due("mean(" + side + rest, court.mean(side, longer, c, part), reference.mean(side, longer, c, part));
                break;
            case 26: case 27:
                int t = number(0, reference.day(0));
                int m = number(1, 9);
                due("stall(" + t + ", " + m + ", " + part + ")", court.stall(t, m, part), reference.stall(t, m, part));
                break;
            default:
                int of = number(-1, 3);
                due("term(" + of + ")", court.term(of), reference.term(of));
                break;
        }
    }

    private void holeCall(int which) {
        int n = number(0, 1);
        switch (which) {
            case 30: case 31:
                int weight = number(1, 99);
                int many = number(0, reference.told(5));
                due("seen(" + weight + ", " + many + ")", court.seen(weight, many), reference.seen(weight, many));
                break;
            case 32:
                if (below(3) == 0) {
                    due("forget()", court.forget(), reference.forget());
                }
                break;
            case 33: case 34: due("fits()", court.fits(), reference.fits()); break;
            case 35:
                int seed = number(0, 9999);
                int m = number(1, 99);
                int side = number(-1, 3);
                due("year(" + seed + ", " + m + ", " + side + ")", court.year(seed, m, side), reference.year(seed, m, side));
                break;
            case 36: due("image(" + n + ")", court.image(n), reference.image(n)); break;
            case 37: due("restore(" + n + ")", court.restore(n), reference.restore(n)); break;
            default:
                int what = number(0, 16);
                due("told(" + what + ")", court.told(what), reference.told(what));
                break;
        }
    }
}
