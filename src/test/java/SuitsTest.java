/** Promises 1 to 8: a new object, settings, the pad, suits, orders. */
public final class SuitsTest {
    private static final Checks CHECKS = new Checks();
    private static final String THREE = "50+40=7p;1+999=0d;120+3=999d";
    private static final String SIX = "1+1=1p;1+1=1p;1+1=1p;1+1=1p;1+1=1p;1+1=1d";

    public static void main(String[] args) {
        newObject();
        settings();
        signs();
        faultsOfSuits();
        faultsOfOrders();
        suits();
        orders();
        suitParts();
        CHECKS.end("SuitsTest");
    }

    private static void newObject() {
        CandleCourt x = new CandleCourt();
        int[] first = {0, 10, 1, 0, 0, 0, 0};
        for (int what = 0; what < first.length; what++) {
            CHECKS.due("new told(" + what + ")", x.told(what), first[what]);
        }
        CHECKS.due("new day(0)", x.day(0), 600);
        CHECKS.due("new day(1)", x.day(1), 0);
        CHECKS.due("new suit(0, 0)", x.suit(0, 0), CandleCourt.UNKNOWN);
        CHECKS.due("new told(10)", x.told(10), CandleCourt.OUTSIDE);
        CHECKS.due("new restore(0)", x.restore(0), CandleCourt.STATE);
        CHECKS.due("new restore(1)", x.restore(1), CandleCourt.STATE);
    }

    private static void settings() {
        int[] least = {1, 1, 0, 0};
        int[] most = {99, 9, 999, 1};
        int[] first = {10, 1, 0, 0};
        for (int which = 0; which < 4; which++) {
            CandleCourt x = new CandleCourt();
            CHECKS.due("set below", x.set(which, least[which] - 1), CandleCourt.OUTSIDE);
            CHECKS.due("set above", x.set(which, most[which] + 1), CandleCourt.OUTSIDE);
            CHECKS.due("refused set changes nothing", x.told(1 + which), first[which]);
            CHECKS.due("set least", x.set(which, least[which]), first[which]);
            CHECKS.due("set most", x.set(which, most[which]), least[which]);
            CHECKS.due("set tells what it was", x.set(which, most[which]), most[which]);
            for (int other = 0; other < 4; other++) {
                int want = other == which ? most[other] : first[other];
                CHECKS.due("set " + which + ", told of " + other, x.told(1 + other), want);
            }
        }
        CandleCourt x = new CandleCourt();
        CHECKS.due("set(-1, 1)", x.set(-1, 1), CandleCourt.OUTSIDE);
        CHECKS.due("set(4, 1)", x.set(4, 1), CandleCourt.OUTSIDE);
    }

    private static void signs() {
        CandleCourt x = new CandleCourt();
        CHECKS.due("wipe of no signs", x.wipe(), 0);
        CHECKS.due("say(32)", x.say(32), CandleCourt.OUTSIDE);
        CHECKS.due("say(127)", x.say(127), CandleCourt.OUTSIDE);
        CHECKS.due("say(33)", x.say(33), 1);
        CHECKS.due("say(126)", x.say(126), 2);
        for (int i = 3; i <= 60; i++) {
            CHECKS.due("say", x.say('1'), i);
        }
        CHECKS.due("say on a full pad", x.say('1'), CandleCourt.FULL);
        CHECKS.due("say(32) on a full pad", x.say(32), CandleCourt.OUTSIDE);
        CHECKS.due("told(0) of a full pad", x.told(0), 60);
        CHECKS.due("wipe of a full pad", x.wipe(), 60);
        CHECKS.due("told(0) after wipe", x.told(0), 0);
        CHECKS.due("say after wipe", x.say('1'), 1);
    }

    private static void fault(String text, int want) {
        CandleCourt x = new CandleCourt();
        Checks.say(x, text);
        CHECKS.due("fault(0) of " + text, x.fault(0), want);
        CHECKS.due("signs after fault(0)", x.told(0), text.length());
        CHECKS.due("suits() of " + text, x.suits() == CandleCourt.NO ? 1 : 0, want == CandleCourt.NONE ? 0 : 1);
        CHECKS.due("signs after suits() of " + text, x.told(0), want == CandleCourt.NONE ? 0 : text.length());
    }

    private static void faultsOfSuits() {
        fault("", CandleCourt.NONE);
        fault("1+1=0p", CandleCourt.NONE);
        fault("999+100=999d;10+909=10p", CandleCourt.NONE);
        fault(SIX, CandleCourt.NONE);
        fault(SIX + ";", SIX.length());
        fault(SIX + "p", SIX.length());
        String[] unready = {"1", "12", "123", "1+", "1+1", "1+1=", "1+1=0", "1+1=999", "1+1=1p;", "1+1=1p;2+2"};
        for (String text : unready) {
            fault(text, text.length());
        }
        String[] wrongAtLast = {"0", "+", "=", "p", "d", ";", "!", "~", "1234", "1=", "1;", "1p", "10+0", "1++", "1+=",
            "1+1+", "1+1p", "1+1;", "1+1234", "1+1==", "1+1=p", "1+1=;", "1+1=00", "1+1=01", "1+1=1234", "1+1=1+",
            "1+1=1;", "1+1=1P", "1+1=1pp", "1+1=1p1", "1+1=1d=", "1+1=1d;;", "1+1=1d;0", "1+1=1d;p", "1/", "1:"};
        for (String text : wrongAtLast) {
            fault(text, text.length() - 1);
            fault(text + "1+1=1p", text.length() - 1);
        }
        CandleCourt x = new CandleCourt();
        CHECKS.due("fault(-1)", x.fault(-1), CandleCourt.OUTSIDE);
        CHECKS.due("fault(2)", x.fault(2), CandleCourt.OUTSIDE);
    }

    private static void orderFault(CandleCourt x, String text, int want) {
        x.wipe();
        Checks.say(x, text);
        CHECKS.due("fault(1) of " + text, x.fault(1), want);
        if (want != CandleCourt.NONE) {
            CHECKS.due("lay() of " + text, x.lay(), CandleCourt.NO);
            CHECKS.due("signs after a refused lay()", x.told(0), text.length());
        }
    }

    private static void faultsOfOrders() {
        CandleCourt x = Checks.court(THREE);
        orderFault(x, "012", CandleCourt.NONE);
        orderFault(x, "210", CandleCourt.NONE);
        orderFault(x, "", 0);
        orderFault(x, "2", 1);
        orderFault(x, "20", 2);
        orderFault(x, "22", 1);
        orderFault(x, "200", 2);
        orderFault(x, "3", 0);
        orderFault(x, "03", 1);
        orderFault(x, "/", 0);
        orderFault(x, "a01", 0);
        orderFault(x, "01~", 2);
        orderFault(x, "0120", 3);
        orderFault(x, "0123", 3);
        CandleCourt none = new CandleCourt();
        orderFault(none, "", CandleCourt.NONE);
        orderFault(none, "0", 0);
        CHECKS.due("an order is no text of suits", none.fault(0), 0);
    }

    private static void suits() {
        CandleCourt x = Checks.court("9+9=9p");
        Checks.say(x, "0");
        x.lay();
        x.seen(5, 1);
        Checks.say(x, THREE);
        CHECKS.due("suits()", x.suits(), 3);
        CHECKS.due("told(5)", x.told(5), 3);
        CHECKS.due("the pad is empty", x.told(0), 0);
        CHECKS.due("sights go", x.told(6), 0);
        Checks.lay(x, "201");
        x.seen(5, 0);
        Checks.say(x, "1+1=1");
        CHECKS.due("suits() with a fault", x.suits(), CandleCourt.NO);
        CHECKS.due("told(5) after it", x.told(5), 3);
        CHECKS.due("sights after it", x.told(6), 1);
        CHECKS.due("the order after it", x.told(10), 2);
        CHECKS.due("suit(2, 2) after it", x.suit(2, 2), 999);
        x.wipe();
        Checks.say(x, SIX);
        CHECKS.due("suits() of six", x.suits(), 6);
        for (int i = 0; i < 6; i++) {
            CHECKS.due("the order is by numbers", x.told(10 + i), i);
        }
        CHECKS.due("suits() of no signs", x.suits(), 0);
        CHECKS.due("told(5) without suits", x.told(5), 0);
    }

    private static void orders() {
        CandleCourt x = Checks.court(THREE);
        x.seen(5, 1);
        Checks.say(x, "120");
        CHECKS.due("lay()", x.lay(), 1);
        CHECKS.due("the pad is empty", x.told(0), 0);
        CHECKS.due("sights stay", x.told(6), 1);
        int[] want = {1, 2, 0};
        for (int i = 0; i < 3; i++) {
            CHECKS.due("told(1" + i + ")", x.told(10 + i), want[i]);
        }
        Checks.say(x, "011");
        CHECKS.due("lay() with a fault", x.lay(), CandleCourt.NO);
        CHECKS.due("the order after it", x.told(10), 1);
        CHECKS.due("the suits are not numbered anew", x.suit(0, 0), 50);
        CHECKS.due("lay() without suits", new CandleCourt().lay(), 1);
    }

    private static void suitParts() {
        CandleCourt x = Checks.court(THREE);
        int[][] want = {{50, 40, 7, 0}, {1, 999, 0, 1}, {120, 3, 999, 1}};
        for (int suit = 0; suit < 3; suit++) {
            for (int what = 0; what < 4; what++) {
                CHECKS.due("suit(" + suit + ", " + what + ")", x.suit(suit, what), want[suit][what]);
            }
            CHECKS.due("suit(s, -1)", x.suit(suit, -1), CandleCourt.OUTSIDE);
            CHECKS.due("suit(s, 4)", x.suit(suit, 4), CandleCourt.OUTSIDE);
        }
        CHECKS.due("suit(-1, 0)", x.suit(-1, 0), CandleCourt.UNKNOWN);
        CHECKS.due("suit(3, 0)", x.suit(3, 0), CandleCourt.UNKNOWN);
        CHECKS.due("suit(3, 4)", x.suit(3, 4), CandleCourt.UNKNOWN);
    }
}
