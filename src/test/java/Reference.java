import java.math.BigInteger;
import java.util.ArrayList;
import java.util.List;
import java.util.regex.Matcher;
import java.util.regex.Pattern;

/** The document told a second time, by plain search: what RandomRunsTest compares the class with. */
final class Reference {
    private static final String NUMBER = "[1-9][0-9]{0,2}";
    private static final String SUIT = NUMBER + "\\+" + NUMBER + "=(0|" + NUMBER + ")[pd]";
    private static final Pattern SUITS = Pattern.compile(SUIT + "(;" + SUIT + "){0,5}");
    private static final BigInteger TEN = BigInteger.TEN;

    record Suit(int first, int second, int worth, int winner) {
        int lasts() {
            return first + second;
        }
    }

    record Kept(int weight, int hole, int held, int law, List<Suit> suits, List<Integer> order, List<int[]> sights) {
    }

    private int weight = 10;
    private int hole = 1;
    private int held = 0;
    private int law = 0;
    private String pad = "";
    private List<Suit> suits = new ArrayList<>();
    private List<Integer> order = new ArrayList<>();
    private List<int[]> sights = new ArrayList<>();
    private final Kept[] images = new Kept[2];

    private static boolean in(int v, int least, int most) {
        return least <= v && v <= most;
    }

    private boolean suitThere(int suit) {
        return in(suit, 0, suits.size() - 1);
    }

    int set(int which, int v) {
        int[] least = {1, 1, 0, 0};
        int[] most = {99, 9, 999, 1};
        if (!in(which, 0, 3) || !in(v, least[which], most[which])) {
            return CandleCourt.OUTSIDE;
        }
        int before = told(1 + which);
        if (which == 0) weight = v;
        if (which == 1) hole = v;
        if (which == 2) held = v;
        if (which == 3) law = v;
        return before;
    }

    int say(int sign) {
        if (!in(sign, 33, 126)) return CandleCourt.OUTSIDE;
        if (pad.length() == 60) return CandleCourt.FULL;
        pad += (char) sign;
        return pad.length();
    }

    int wipe() {
        int before = pad.length();
        pad = "";
        return before;
    }

    int fault(int how) {
        if (how == 0) return suitsFault();
        return how == 1 ? orderFault() : CandleCourt.OUTSIDE;
    }

    private int suitsFault() {
        if (pad.isEmpty()) return CandleCourt.NONE;
        for (int i = 1; i <= pad.length(); i++) {
            Matcher matcher = SUITS.matcher(pad.substring(0, i));
            if (!matcher.matches() && !matcher.hitEnd()) return i - 1;
        }
        return SUITS.matcher(pad).matches() ? CandleCourt.NONE : pad.length();
    }

    private int orderFault() {
        for (int i = 0; i < pad.length(); i++) {
            int suit = pad.charAt(i) - '0';
            if (!suitThere(suit) || pad.indexOf(pad.charAt(i)) < i) return i;
        }
        return pad.length() == suits.size() ? CandleCourt.NONE : pad.length();
    }

    int suits() {
        if (suitsFault() != CandleCourt.NONE) return CandleCourt.NO;
        suits = new ArrayList<>();
        order = new ArrayList<>();
        sights = new ArrayList<>();
        if (!pad.isEmpty()) {
            for (String text : pad.split(";")) {
                String[] parts = text.substring(0, text.length() - 1).split("[+=]");
                int winner = text.endsWith("p") ? 0 : 1;
                order.add(suits.size());
                suits.add(new Suit(Integer.parseInt(parts[0]), Integer.parseInt(parts[1]),
                    Integer.parseInt(parts[2]), winner));
            }
        }
        pad = "";
        return suits.size();
    }

    int lay() {
        if (orderFault() != CandleCourt.NONE) return CandleCourt.NO;
        order = new ArrayList<>();
        for (char sign : pad.toCharArray()) order.add(sign - '0');
        pad = "";
        return 1;
    }

    int suit(int suit, int what) {
        if (!suitThere(suit)) return CandleCourt.UNKNOWN;
        if (!in(what, 0, 3)) return CandleCourt.OUTSIDE;
        Suit it = suits.get(suit);
        return new int[] {it.first(), it.second(), it.worth(), it.winner()}[what];
    }

    private int floats(int someWeight, int someHole, int someHeld) {
        return 60 * someWeight / someHole + someHeld;
    }

    private int floats() {
        return floats(weight, hole, held);
    }

    /** Which of a row are decided by a stub: the first ones. */
    private int decided(List<Integer> row, int floats) {
        int seconds = 0;
        int count = 0;
        for (int suit : row) {
            seconds += suits.get(suit).lasts();
            if (seconds <= floats) count++;
        }
        return count;
    }

    private int side(List<Integer> row, int floats, int side) {
        int decided = decided(row, floats);
        if (side == -1) return decided;
        int sum = 0;
        for (int i = 0; i < row.size(); i++) {
            Suit it = suits.get(row.get(i));
            boolean its = side == 3 || side == it.winner();
            if (i < decided && its) sum += it.worth();
            if (i == decided && side == 2 * law) sum += it.worth();
        }
        return sum;
    }

    int day(int what) {
        if (!in(what, 0, 2)) return CandleCourt.OUTSIDE;
        if (what == 0) return floats();
        int decided = decided(order, floats());
        if (what == 1) return decided;
        return decided < order.size() ? order.get(decided) : CandleCourt.NONE;
    }

    int over(int suit, int what) {
        if (!suitThere(suit)) return CandleCourt.UNKNOWN;
        if (!in(what, 0, 1)) return CandleCourt.OUTSIDE;
        int place = order.indexOf(suit);
        if (what == 1) return Math.max(0, Math.min(2, place - decided(order, floats()) + 1));
        return order.subList(0, place + 1).stream().mapToInt(s -> suits.get(s).lasts()).sum();
    }

    int won(int side) {
        return in(side, 0, 3) ? side(order, floats(), side) : CandleCourt.OUTSIDE;
    }

    int order(int side, int i) {
        if (!in(side, 0, 3)) return CandleCourt.OUTSIDE;
        if (!in(i, -1, suits.size() - 1)) return CandleCourt.NONE;
        List<Integer> best = best(new ArrayList<>(), side);
        return i == -1 ? side(best, floats(), side) : best.get(i);
    }

    private List<Integer> best(List<Integer> ahead, int side) {
        if (ahead.size() == suits.size()) return ahead;
        List<Integer> best = null;
        for (int suit = 0; suit < suits.size(); suit++) {
            if (ahead.contains(suit)) continue;
            List<Integer> longer = new ArrayList<>(ahead);
            longer.add(suit);
            List<Integer> other = best(longer, side);
            if (best == null || side(other, floats(), side) > side(best, floats(), side)) best = other;
        }
        return best;
    }

    private boolean allDecided(int set, int floats) {
        int decided = decided(order, floats);
        for (int i = decided; i < order.size(); i++) {
            if ((set >> order.get(i) & 1) == 1) return false;
        }
        return true;
    }

    int wax(int set) {
        if (!in(set, 0, (1 << suits.size()) - 1)) return CandleCourt.OUTSIDE;
        for (int w = 1; w <= 99; w++) {
            if (allDecided(set, floats(w, hole, held))) return w;
        }
        return CandleCourt.NONE;
    }

    int finger(int set) {
        if (!in(set, 0, (1 << suits.size()) - 1)) return CandleCourt.OUTSIDE;
        for (int h = 0; h <= 999; h++) {
            if (allDecided(set, floats(weight, hole, h))) return h;
        }
        return CandleCourt.NONE;
    }

    int drawnOut(int suit) {
        if (!suitThere(suit)) return CandleCourt.UNKNOWN;
        int place = order.indexOf(suit);
        List<Suit> before = suits;
        int more = 0;
        while (decided(order, floats()) > place) {
            more++;
            Suit it = before.get(suit);
            suits = new ArrayList<>(before);
            suits.set(suit, new Suit(it.first() + more, it.second(), it.worth(), it.winner()));
        }
        suits = before;
        return more;
    }

    /** The game played out: of so many tens left, moves until it is lost, below 0 if he who is to speak loses. */
    int stall(int t, int m, int what) {
        if (!in(t, 0, floats()) || !in(m, 1, 9) || !in(what, 0, 1)) return CandleCourt.OUTSIDE;
        int tens = (floats() - t) / 10;
        int[] moves = new int[tens + 1];
        int first = CandleCourt.NONE;
        for (int n = 0; n <= tens; n++) {
            int soon = 0;
            int late = 1;
            first = CandleCourt.NONE;
            for (int k = m; k >= 1; k--) {
                if (k > n) continue;
                int then = moves[n - k];
                if (then < 0) {
                    soon = soon == 0 ? 1 - then : Math.min(soon, 1 - then);
                    first = k;
                } else {
                    late = Math.max(late, 1 + then);
                }
            }
            moves[n] = soon > 0 ? soon : -late;
        }
        return what == 0 ? first : Math.abs(moves[tens]);
    }

    private static long fraction(BigInteger upper, BigInteger lower, int part) {
        BigInteger divisor = upper.gcd(lower);
        return (part == 0 ? upper : lower).divide(divisor).longValueExact();
    }

    private static boolean chance(int longer, int c, int part) {
        return in(longer, 0, 999) && in(c, 0, 10) && in(part, 0, 1);
    }

    /** Times ten to the number of suits from a place on. */
    private BigInteger decidedCases(int place, int seconds, int longer, int c, int last) {
        if (seconds > floats()) return BigInteger.ZERO;
        if (place > last) return TEN.pow(order.size() - place);
        int over = seconds + suits.get(order.get(place)).lasts();
        return decidedCases(place + 1, over, longer, c, last).multiply(BigInteger.valueOf(10 - c))
            .add(decidedCases(place + 1, over + longer, longer, c, last).multiply(BigInteger.valueOf(c)));
    }

    long likely(int suit, int longer, int c, int part) {
        if (!suitThere(suit)) return CandleCourt.GONE + CandleCourt.UNKNOWN;
        if (!chance(longer, c, part)) return CandleCourt.GONE + CandleCourt.OUTSIDE;
        BigInteger upper = decidedCases(0, 0, longer, c, order.indexOf(suit));
        return fraction(upper, TEN.pow(order.size()), part);
    }

    private BigInteger meanCases(int place, int seconds, int side, int longer, int c) {
        if (place == order.size()) return BigInteger.ZERO;
        Suit it = suits.get(order.get(place));
        BigInteger sum = BigInteger.ZERO;
        for (int drawn = 0; drawn < 2; drawn++) {
            int over = seconds + it.lasts() + drawn * longer;
            BigInteger all = TEN.pow(order.size() - place - 1);
            BigInteger cases = BigInteger.ZERO;
            if (over <= floats()) {
                cases = meanCases(place + 1, over, side, longer, c);
                if (side == 3 || side == it.winner()) cases = cases.add(all.multiply(BigInteger.valueOf(it.worth())));
            } else if (side == 2 * law) {
                cases = all.multiply(BigInteger.valueOf(it.worth()));
            }
            sum = sum.add(cases.multiply(BigInteger.valueOf(drawn == 1 ? c : 10 - c)));
        }
        return sum;
    }

    long mean(int side, int longer, int c, int part) {
        if (!in(side, 0, 3) || !chance(longer, c, part)) return CandleCourt.GONE + CandleCourt.OUTSIDE;
        return fraction(meanCases(0, 0, side, longer, c), TEN.pow(order.size()), part);
    }

    int term(int side) {
        if (!in(side, -1, 3)) return CandleCourt.OUTSIDE;
        List<Integer> waiting = new ArrayList<>(order);
        int days = 0;
        int sum = 0;
        while (!waiting.isEmpty()) {
            days++;
            sum += side(waiting, floats(), side);
            int done = Math.min(waiting.size(), decided(waiting, floats()) + 1);
            waiting = waiting.subList(done, waiting.size());
        }
        return side == -1 ? days : sum;
    }

    int seen(int someWeight, int many) {
        if (!in(someWeight, 1, 99) || !in(many, 0, suits.size())) return CandleCourt.OUTSIDE;
        if (sights.size() == 6) return CandleCourt.FULL;
        sights.add(new int[] {someWeight, many});
        return sights.size();
    }

    int forget() {
        int before = sights.size();
        sights = new ArrayList<>();
        return before;
    }

    int fits() {
        int bits = 0;
        for (int h = 1; h <= 9; h++) {
            boolean all = true;
            for (int[] sight : sights) all &= decided(order, floats(sight[0], h, held)) == sight[1];
            if (all) bits |= 1 << h;
        }
        return bits;
    }

    int year(int seed, int m, int side) {
        if (!in(seed, 0, 9999) || !in(m, 1, 99) || !in(side, -1, 3)) return CandleCourt.OUTSIDE;
        long x = seed;
        int sum = 0;
        for (int day = 1; day <= m; day++) {
            x = (75 * x + 74) % 65537;
            sum += side(order, floats((int) (x % 99) + 1, hole, held), side);
        }
        return sum;
    }

    int image(int n) {
        if (!in(n, 0, 1)) return CandleCourt.OUTSIDE;
        images[n] = new Kept(weight, hole, held, law, suits, order, new ArrayList<>(sights));
        return 1;
    }

    int restore(int n) {
        if (!in(n, 0, 1)) return CandleCourt.OUTSIDE;
        Kept kept = images[n];
        if (kept == null) return CandleCourt.STATE;
        weight = kept.weight();
        hole = kept.hole();
        held = kept.held();
        law = kept.law();
        suits = kept.suits();
        order = kept.order();
        sights = new ArrayList<>(kept.sights());
        return 1;
    }

    int told(int what) {
        if (in(what, 0, 6)) {
            return new int[] {pad.length(), weight, hole, held, law, suits.size(), sights.size()}[what];
        }
        return in(what, 10, 9 + suits.size()) ? order.get(what - 10) : CandleCourt.OUTSIDE;
    }
}
