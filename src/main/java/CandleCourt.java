/** A court that sits as long as a stub of wax floats in a bowl with a hole. */
public final class CandleCourt {
    public static final int UNKNOWN = -1, OUTSIDE = -2, STATE = -3, FULL = -4, NO = -5, NONE = -6;
    public static final long GONE = -1000000000000000000L;

    private static final int MOST_SUITS = 6;
    private static final int MOST_SIGHTS = 6;
    private static final int MOST_SIGNS = 60;
    private static final int MOST_WEIGHT = 99;
    private static final int MOST_HOLE = 9;
    private static final int MOST_HELD = 999;
    private static final int MOST_LONGER = 999;
    private static final int MOST_TENTHS = 10;
    private static final int MOST_ORDERS = 720;
    private static final int IMAGES = 2;

    /** Euclid's steps on numbers below 2 to the 62nd are fewer than this. */
    private static final int MOST_STEPS = 100;

    /** The sides: what a side has is asked for by these numbers. */
    private static final int PLAINTIFFS = 0, DEFENDANTS = 1, POOR = 2, DECIDED_WORTHS = 3;

    private final int[] pad;
    private int signs;
    private final Bench now;
    private final Bench[] images;
    private final Sitting sitting;
    private final Reader reader;
    private final int[] trial;
    private final int[] best;

    public CandleCourt() {
        pad = new int[MOST_SIGNS];
        signs = 0;
        now = new Bench();
        images = new Bench[IMAGES];
        for (int i = 0; i < images.length; i++) {
            images[i] = new Bench();
        }
        sitting = new Sitting();
        reader = new Reader();
        trial = new int[MOST_SUITS];
        best = new int[MOST_SUITS];
    }

    // ---- 1 stubs, suits

    public int set(int which, int v) {
        if (!settable(which, v)) {
            return OUTSIDE;
        }
        int before = now.setting(which);
        now.change(which, v);
        return before;
    }

    public int say(int sign) {
        if (!within(sign, 33, 126)) {
            return OUTSIDE;
        }
        if (signs >= MOST_SIGNS) {
            return FULL;
        }
        put(pad, signs, sign);
        signs++;
        return signs;
    }

    public int wipe() {
        int before = signs;
        signs = 0;
        return before;
    }

    public int fault(int how) {
        if (how == 0) {
            return reader.read(pad, signs);
        }
        if (how == 1) {
            return orderFault();
        }
        return OUTSIDE;
    }

    public int suits() {
        if (reader.read(pad, signs) != NONE) {
            return NO;
        }
        now.take(reader);
        signs = 0;
        return now.many;
    }

    public int lay() {
        if (orderFault() != NONE) {
            return NO;
        }
        for (int i = 0; i < now.many; i++) {
            put(now.row, i, at(pad, i) - '0');
        }
        signs = 0;
        return 1;
    }

    public int suit(int suit, int what) {
        if (!isSuit(suit)) {
            return UNKNOWN;
        }
        switch (what) {
            case 0: return at(now.first, suit);
            case 1: return at(now.second, suit);
            case 2: return at(now.worth, suit);
            case 3: return at(now.winner, suit);
            default: return OUTSIDE;
        }
    }

    // ---- 2 days

    public int day(int what) {
        if (!within(what, 0, 2)) {
            return OUTSIDE;
        }
        if (what == 0) {
            return now.floats();
        }
        sitToday();
        return what == 1 ? sitting.decided : sitting.sunk;
    }

    public int over(int suit, int what) {
        if (!isSuit(suit)) {
            return UNKNOWN;
        }
        if (!within(what, 0, 1)) {
            return OUTSIDE;
        }
        return what == 0 ? now.end(suit) : fate(suit);
    }

    public int won(int side) {
        if (!isSide(side)) {
            return OUTSIDE;
        }
        sitToday();
        return sitting.has(side);
    }

    public int order(int side, int i) {
        if (!isSide(side)) {
            return OUTSIDE;
        }
        if (i < -1 || i >= now.many) {
            return NONE;
        }
        int most = findBest(side);
        return i == -1 ? most : at(best, i);
    }

    public int wax(int set) {
        if (!isSet(set)) {
            return OUTSIDE;
        }
        int need = lastEnd(set);
        for (int weight = 1; weight <= MOST_WEIGHT; weight++) {
            if (now.floatsBy(weight, now.hole) >= need) {
                return weight;
            }
        }
        return NONE;
    }

    public int finger(int set) {
        if (!isSet(set)) {
            return OUTSIDE;
        }
        int lacks = lastEnd(set) - burns(now.weight, now.hole);
        if (lacks <= 0) {
            return 0;
        }
        return lacks > MOST_HELD ? NONE : lacks;
    }

    public int drawnOut(int suit) {
        if (!isSuit(suit)) {
            return UNKNOWN;
        }
        int spare = now.floats() - now.end(suit);
        return spare < 0 ? 0 : spare + 1;
    }

    // ---- 3 advocates, chances, terms

    public int stall(int t, int m, int what) {
        if (!within(t, 0, now.floats()) || !within(m, 1, 9) || !within(what, 0, 1)) {
            return OUTSIDE;
        }
        // Whoever leaves a multiple of m + 1 tens can answer any speech by what is missing
        // to m + 1, and has no other way to win: so each round takes just m + 1 tens.
        int tens = (now.floats() - t) / 10;
        int round = m + 1;
        int opening = tens % round;
        int rounds = tens / round;
        if (what == 0) {
            return opening == 0 ? NONE : opening;
        }
        return 2 * rounds + (opening == 0 ? 1 : 2);
    }

    public long likely(int suit, int longer, int c, int part) {
        if (!isSuit(suit)) {
            return GONE + UNKNOWN;
        }
        if (!isChance(longer, c, part)) {
            return GONE + OUTSIDE;
        }
        long upper = 0;
        for (int drawn = 0; drawn < (1 << now.many); drawn++) {
            sitDrawn(drawn, longer);
            if (now.place(suit) < sitting.decided) {
                upper += waysOf(drawn, c);
            }
        }
        return lowest(upper, power(MOST_TENTHS, now.many), part);
    }

    public long mean(int side, int longer, int c, int part) {
        if (!isSide(side) || !isChance(longer, c, part)) {
            return GONE + OUTSIDE;
        }
        long upper = 0;
        for (int drawn = 0; drawn < (1 << now.many); drawn++) {
            sitDrawn(drawn, longer);
            upper += waysOf(drawn, c) * sitting.has(side);
        }
        return lowest(upper, power(MOST_TENTHS, now.many), part);
    }

    public int term(int side) {
        if (side != -1 && !isSide(side)) {
            return OUTSIDE;
        }
        int days = 0;
        int sum = 0;
        int from = 0;
        // Each day decides or sinks one suit at least, so there are no more days than suits.
        for (int i = 0; i < MOST_SUITS && from < now.many; i++) {
            sitting.plead(now, now.row, from, now.floats(), 0, 0);
            from += sitting.decided + (sitting.sunk == NONE ? 0 : 1);
            days++;
            sum += sitting.has(side);
        }
        return side == -1 ? days : sum;
    }

    // ---- 4 holes, years

    public int seen(int weight, int many) {
        if (!within(weight, 1, MOST_WEIGHT) || !within(many, 0, now.many)) {
            return OUTSIDE;
        }
        if (now.sights >= MOST_SIGHTS) {
            return FULL;
        }
        put(now.sightWeight, now.sights, weight);
        put(now.sightMany, now.sights, many);
        now.sights++;
        return now.sights;
    }

    public int forget() {
        int before = now.sights;
        now.sights = 0;
        return before;
    }

    public int fits() {
        int bits = 0;
        for (int hole = 1; hole <= MOST_HOLE; hole++) {
            if (sightsHold(hole)) {
                bits |= 1 << hole;
            }
        }
        return bits;
    }

    public int year(int seed, int m, int side) {
        if (!within(seed, 0, 9999) || !within(m, 1, 99) || (side != -1 && !isSide(side))) {
            return OUTSIDE;
        }
        int x = seed;
        int sum = 0;
        for (int i = 0; i < m; i++) {
            x = (75 * x + 74) % 65537;
            sitting.plead(now, now.row, 0, now.floatsBy(1 + x % 99, now.hole), 0, 0);
            sum += side == -1 ? sitting.decided : sitting.has(side);
        }
        return sum;
    }

    public int image(int n) {
        Bench kept = imageOf(n);
        if (kept == null) {
            return OUTSIDE;
        }
        kept.copy(now);
        kept.full = true;
        return 1;
    }

    public int restore(int n) {
        Bench kept = imageOf(n);
        if (kept == null) {
            return OUTSIDE;
        }
        if (!kept.full) {
            return STATE;
        }
        now.copy(kept);
        return 1;
    }

    public int told(int what) {
        switch (what) {
            case 0: return signs;
            case 1: return now.weight;
            case 2: return now.hole;
            case 3: return now.held;
            case 4: return now.law;
            case 5: return now.many;
            case 6: return now.sights;
            default: return within(what, 10, 9 + now.many) ? at(now.row, what - 10) : OUTSIDE;
        }
    }

    // ---- what may be asked

    private static boolean within(int v, int least, int most) {
        return v >= least && v <= most;
    }

    private static boolean settable(int which, int v) {
        switch (which) {
            case 0: return within(v, 1, MOST_WEIGHT);
            case 1: return within(v, 1, MOST_HOLE);
            case 2: return within(v, 0, MOST_HELD);
            case 3: return within(v, 0, 1);
            default: return false;
        }
    }

    private static boolean isSide(int side) {
        return within(side, PLAINTIFFS, DECIDED_WORTHS);
    }

    private static boolean isChance(int longer, int c, int part) {
        return within(longer, 0, MOST_LONGER) && within(c, 0, MOST_TENTHS) && within(part, 0, 1);
    }

    private boolean isSuit(int suit) {
        return within(suit, 0, now.many - 1);
    }

    private boolean isSet(int set) {
        return within(set, 0, (1 << now.many) - 1);
    }

    private Bench imageOf(int n) {
        return n >= 0 && n < images.length ? images[n] : null;
    }

    // ---- rows: looked at before they are used

    private static int at(int[] row, int i) {
        return row != null && i >= 0 && i < row.length ? row[i] : 0;
    }

    private static void put(int[] row, int i, int v) {
        if (row != null && i >= 0 && i < row.length) {
            row[i] = v;
        }
    }

    private static void copyRow(int[] from, int[] to) {
        for (int i = 0; to != null && i < to.length; i++) {
            to[i] = at(from, i);
        }
    }

    private static void swap(int[] row, int i, int j) {
        int v = at(row, i);
        put(row, i, at(row, j));
        put(row, j, v);
    }

    // ---- orders

    private int orderFault() {
        int told = 0;
        for (int i = 0; i < signs; i++) {
            int suit = at(pad, i) - '0';
            if (!isSuit(suit) || (told >> suit & 1) != 0) {
                return i;
            }
            told |= 1 << suit;
        }
        return signs < now.many ? signs : NONE;
    }

    /** Leaves the first of the orders by which the side has most in best. */
    private int findBest(int side) {
        int most = -1;
        for (int i = 0; i < MOST_SUITS; i++) {
            put(trial, i, i);
        }
        boolean more = true;
        for (int turn = 0; turn < MOST_ORDERS && more; turn++) {
            sitting.plead(now, trial, 0, now.floats(), 0, 0);
            int has = sitting.has(side);
            if (has > most) {
                most = has;
                copyRow(trial, best);
            }
            more = stepOrder(trial, now.many);
        }
        return most;
    }

    /** Makes the row the next one by numbers; false if there is none. */
    private static boolean stepOrder(int[] row, int many) {
        int i = many - 2;
        while (i >= 0 && at(row, i) >= at(row, i + 1)) {
            i--;
        }
        if (i < 0) {
            return false;
        }
        int j = many - 1;
        while (j > i && at(row, j) <= at(row, i)) {
            j--;
        }
        swap(row, i, j);
        int left = i + 1;
        int right = many - 1;
        while (left < right) {
            swap(row, left, right);
            left++;
            right--;
        }
        return true;
    }

    // ---- days

    private void sitToday() {
        sitting.plead(now, now.row, 0, now.floats(), 0, 0);
    }

    private void sitDrawn(int drawn, int longer) {
        sitting.plead(now, now.row, 0, now.floats(), drawn, longer);
    }

    private int fate(int suit) {
        sitToday();
        if (suit == sitting.sunk) {
            return 1;
        }
        return now.place(suit) < sitting.decided ? 0 : 2;
    }

    /** When the last one of the set is over, if nothing sinks; 0 of no suits. */
    private int lastEnd(int set) {
        int last = 0;
        for (int suit = 0; suit < now.many; suit++) {
            int end = (set >> suit & 1) != 0 ? now.end(suit) : 0;
            last = end > last ? end : last;
        }
        return last;
    }

    private boolean sightsHold(int hole) {
        for (int i = 0; i < now.sights; i++) {
            int floats = now.floatsBy(at(now.sightWeight, i), hole);
            sitting.plead(now, now.row, 0, floats, 0, 0);
            if (sitting.decided != at(now.sightMany, i)) {
                return false;
            }
        }
        return true;
    }

    /** How long the stub floats without the finger. */
    private static int burns(int weight, int hole) {
        return hole > 0 ? 60 * weight / hole : 0;
    }

    // ---- chances

    /** Of ten to the number of suits equal cases, how many draw out just these suits. */
    private long waysOf(int drawn, int c) {
        int longOnes = Integer.bitCount(drawn);
        return power(c, longOnes) * power(MOST_TENTHS - c, now.many - longOnes);
    }

    private static long power(int base, int exponent) {
        long product = 1;
        for (int i = 0; i < exponent; i++) {
            product *= base;
        }
        return product;
    }

    private static long lowest(long upper, long lower, int part) {
        long divisor = upper;
        long rest = lower;
        for (int i = 0; i < MOST_STEPS && rest != 0; i++) {
            long next = divisor % rest;
            divisor = rest;
            rest = next;
        }
        long told = part == 0 ? upper : lower;
        return divisor > 0 ? told / divisor : told;
    }

    /** All that an image keeps: the stub, the suits, their order, the sights. */
    private static final class Bench {
        int weight = 10;
        int hole = 1;
        int held = 0;
        int law = 0;
        int many = 0;
        int sights = 0;
        boolean full = false;
        final int[] first = new int[MOST_SUITS];
        final int[] second = new int[MOST_SUITS];
        final int[] worth = new int[MOST_SUITS];
        final int[] winner = new int[MOST_SUITS];
        final int[] row = new int[MOST_SUITS];
        final int[] sightWeight = new int[MOST_SIGHTS];
        final int[] sightMany = new int[MOST_SIGHTS];

        int setting(int which) {
            switch (which) {
                case 0: return weight;
                case 1: return hole;
                case 2: return held;
                default: return law;
            }
        }

        void change(int which, int v) {
            switch (which) {
                case 0: weight = v; break;
                case 1: hole = v; break;
                case 2: held = v; break;
                default: law = v; break;
            }
        }

        void take(Reader reader) {
            many = reader.suitsRead;
            copyRow(reader.first, first);
            copyRow(reader.second, second);
            copyRow(reader.worth, worth);
            copyRow(reader.winner, winner);
            for (int i = 0; i < MOST_SUITS; i++) {
                put(row, i, i);
            }
            sights = 0;
        }

        void copy(Bench other) {
            weight = other.weight;
            hole = other.hole;
            held = other.held;
            law = other.law;
            many = other.many;
            sights = other.sights;
            copyRow(other.first, first);
            copyRow(other.second, second);
            copyRow(other.worth, worth);
            copyRow(other.winner, winner);
            copyRow(other.row, row);
            copyRow(other.sightWeight, sightWeight);
            copyRow(other.sightMany, sightMany);
        }

        int floats() {
            return floatsBy(weight, hole);
        }

        int floatsBy(int someWeight, int someHole) {
            return burns(someWeight, someHole) + held;
        }

        int lasts(int suit) {
            return at(first, suit) + at(second, suit);
        }

        /** When the suit is over, if nothing sinks. */
        int end(int suit) {
            int seconds = 0;
            for (int i = 0; i <= place(suit); i++) {
                seconds += lasts(at(row, i));
            }
            return seconds;
        }

        int place(int suit) {
            for (int i = 0; i < many; i++) {
                if (at(row, i) == suit) {
                    return i;
                }
            }
            return many;
        }
    }

    /** One day of the court, and what it left. */
    private static final class Sitting {
        int decided = 0;
        int sunk = NONE;
        int plaintiffs = 0;
        int defendants = 0;
        int poor = 0;
        int worths = 0;

        /** Pleads the suits of the row from a place on; those of the bits drawn are longer. */
        void plead(Bench bench, int[] row, int from, int floats, int drawn, int longer) {
            decided = 0;
            sunk = NONE;
            plaintiffs = 0;
            defendants = 0;
            poor = 0;
            worths = 0;
            int seconds = 0;
            for (int i = from; i < bench.many && sunk == NONE; i++) {
                int suit = at(row, i);
                seconds += bench.lasts(suit) + ((drawn >> suit & 1) != 0 ? longer : 0);
                if (seconds > floats) {
                    sink(bench, suit);
                } else {
                    decide(bench, suit);
                }
            }
        }

        private void decide(Bench bench, int suit) {
            decided++;
            worths += at(bench.worth, suit);
            if (at(bench.winner, suit) == 0) {
                plaintiffs += at(bench.worth, suit);
            } else {
                defendants += at(bench.worth, suit);
            }
        }

        private void sink(Bench bench, int suit) {
            sunk = suit;
            if (bench.law == 0) {
                plaintiffs += at(bench.worth, suit);
            } else {
                poor += at(bench.worth, suit);
            }
        }

        int has(int side) {
            switch (side) {
                case PLAINTIFFS: return plaintiffs;
                case DEFENDANTS: return defendants;
                case POOR: return poor;
                case DECIDED_WORTHS: return worths;
                default: return 0;
            }
        }
    }

    /** Reads signs as suits, one by one, and holds the suits read so far. */
    private static final class Reader {
        static final int IN_FIRST = 0, IN_SECOND = 1, IN_WORTH = 2, SUIT_ENDS = 3;
        static final int MOST_DIGITS = 3;

        int phase = IN_FIRST;
        int digits = 0;
        int value = 0;
        int suitsRead = 0;
        final int[] first = new int[MOST_SUITS];
        final int[] second = new int[MOST_SUITS];
        final int[] worth = new int[MOST_SUITS];
        final int[] winner = new int[MOST_SUITS];

        /** The place of the fault; NONE if there is none. */
        int read(int[] signRow, int count) {
            suitsRead = 0;
            startNumber(IN_FIRST);
            for (int i = 0; i < count; i++) {
                if (!takes(at(signRow, i))) {
                    return i;
                }
            }
            return count == 0 || phase == SUIT_ENDS ? NONE : count;
        }

        private boolean takes(int sign) {
            if (within(sign, '0', '9')) {
                return takesDigit(sign - '0');
            }
            switch (sign) {
                case '+': return endsSpeech(IN_FIRST, first);
                case '=': return endsSpeech(IN_SECOND, second);
                case 'p': return endsSuit(0);
                case 'd': return endsSuit(1);
                case ';': return startsSuit();
                default: return false;
            }
        }

        private boolean takesDigit(int digit) {
            if (phase == SUIT_ENDS || digits == MOST_DIGITS) {
                return false;
            }
            // Only a worth may be 0, and a 0 ahead ends its number.
            boolean zeroAhead = digits == 0 && digit == 0 && phase != IN_WORTH;
            if (zeroAhead || (digits > 0 && value == 0)) {
                return false;
            }
            value = 10 * value + digit;
            digits++;
            return true;
        }

        private boolean endsSpeech(int which, int[] speeches) {
            if (phase != which || digits == 0) {
                return false;
            }
            put(speeches, suitsRead, value);
            startNumber(which + 1);
            return true;
        }

        private boolean endsSuit(int who) {
            if (phase != IN_WORTH || digits == 0) {
                return false;
            }
            put(worth, suitsRead, value);
            put(winner, suitsRead, who);
            suitsRead++;
            phase = SUIT_ENDS;
            return true;
        }

        private boolean startsSuit() {
            if (phase != SUIT_ENDS || suitsRead >= MOST_SUITS) {
                return false;
            }
            startNumber(IN_FIRST);
            return true;
        }

        private void startNumber(int which) {
            phase = which;
            digits = 0;
            value = 0;
        }
    }
}
