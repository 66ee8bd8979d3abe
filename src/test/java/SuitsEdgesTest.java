/** Promises 1 to 8, sentence by sentence: what stands at an edge, and what is just beyond it. */
public final class SuitsEdgesTest {
    private static final Checks CHECKS = new Checks();
    private static final int FIRST_CODE = 33;
    private static final int LAST_CODE = 126;
    private static final String DIGITS = "0123456789";
    private static final String FIVE = "1+1=1p;2+2=2d;3+3=3p;4+4=4d;5+5=5p";
    private static final String SIX = FIVE + ";6+6=6d";
    private static final String SIXTY = "100+100=100p;200+200=200d;300+300=300p;400+400=400d;9+9=9p;1";

    public static void main(String[] args) {
        newObjectHasNoSuits();
        newObjectsStandAlone();
        settingsAtTheirEdges();
        settingsOneByOne();
        padAtItsEdges();
        fullPad();
        wipeTakesSignsAlone();
        everySignBehindEveryText();
        numbersAtTheirEdges();
        moreMustCome();
        everySignOfAnOrder();
        ordersOfSoManySuits();
        suitsFromNoneToSix();
        suitsTakeSightsAndOrder();
        suitsRefused();
        layTakesNoSights();
        layRefused();
        suitsAtTheirEdges();
        CHECKS.end("SuitsEdgesTest");
    }

    // "No SUITS."; a stub weighs 10 at first, the hole is 1 wide, 0 seconds held, law 0
    private static void newObjectHasNoSuits() {
        CHECKS.same("a new object", Checks.state(new CandleCourt()),
            "told 0 10 1 0 0 0 0 -2 -2 -2 -2 -2 -2 -2 -2 -2 suits day 600 0 -6 won 0 0 0 0 fits 1022 faults -6 -6");
        CandleCourt x = new CandleCourt();
        for (int suit = 0; suit <= 6; suit++) {
            CHECKS.due("new suit", x.suit(suit, 0), Checks.UNKNOWN);
            CHECKS.due("new over", x.over(suit, 0), Checks.UNKNOWN);
            CHECKS.due("new drawnOut", x.drawnOut(suit), Checks.UNKNOWN);
            CHECKS.due("new likely", x.likely(suit, 0, 0, 0), CandleCourt.GONE + Checks.UNKNOWN);
        }
        CHECKS.due("new restore(0)", x.restore(0), Checks.STATE);
        CHECKS.due("new restore(1)", x.restore(1), Checks.STATE);
    }

    private static void newObjectsStandAlone() {
        CandleCourt x = Checks.court(SIX);
        Checks.stub(x, 99, 9, 999, 1);
        x.seen(1, 0);
        x.image(0);
        x.image(1);
        Checks.say(x, "12");
        newObjectHasNoSuits();
    }

    // "weighs 1 to 99", "1 to 9 wide", "0 to 999", "LAW: 0 .., 1"
    private static void settingsAtTheirEdges() {
        int[] least = {1, 1, 0, 0};
        int[] most = {99, 9, 999, 1};
        for (int which = 0; which < 4; which++) {
            CandleCourt x = new CandleCourt();
            int was = x.told(1 + which);
            for (int v : new int[] {least[which], most[which], least[which]}) {
                CHECKS.due("set(" + which + ", " + v + ")", x.set(which, v), was);
                CHECKS.due("told of it", x.told(1 + which), v);
                was = v;
                for (int wrong : new int[] {least[which] - 1, most[which] + 1, Checks.MIN, Checks.MAX}) {
                    CHECKS.due("set(" + which + ", " + wrong + ")", x.set(which, wrong), Checks.OUTSIDE);
                    CHECKS.due("told after it", x.told(1 + which), v);
                }
            }
        }
        for (int which : new int[] {-1, 4, 5, Checks.MIN, Checks.MAX}) {
            CHECKS.due("set(" + which + ", 1)", new CandleCourt().set(which, 1), Checks.OUTSIDE);
        }
    }

    private static void settingsOneByOne() {
        CandleCourt x = Checks.court("1+1=1p;2+2=2d");
        x.seen(5, 1);
        Checks.lay(x, "10");
        Checks.stub(x, 42, 7, 500, 1);
        CHECKS.same("four settings, nothing else", Checks.state(x), "told 0 42 7 500 1 2 1 -2 -2 -2 1 0 -2 -2 -2 -2"
            + " suits 1 1 1 0 6 0 2 2 2 1 4 0 day 860 2 -6 won 1 2 0 3 fits 0 faults -6 0");
    }

    // "up to 60 signs (codes 33 to 126)"
    private static void padAtItsEdges() {
        for (int sign = 0; sign <= 300; sign++) {
            boolean stands = sign >= FIRST_CODE && sign <= LAST_CODE;
            CandleCourt x = new CandleCourt();
            CHECKS.due("say(" + sign + ")", x.say(sign), stands ? 1 : Checks.OUTSIDE);
            CHECKS.due("told(0) after it", x.told(0), stands ? 1 : 0);
        }
        for (int sign : new int[] {Checks.MIN, -1, 256 + 49, 65536 + 49, Checks.MAX}) {
            CHECKS.due("say(" + sign + ")", new CandleCourt().say(sign), Checks.OUTSIDE);
        }
    }

    private static void fullPad() {
        CandleCourt x = new CandleCourt();
        for (int i = 0; i < 60; i++) {
            CHECKS.due("say to sixty", x.say(SIXTY.charAt(i)), i + 1);
        }
        CHECKS.due("sixty signs and more must come", x.fault(0), 60);
        CHECKS.due("a sixty-first sign", x.say('+'), Checks.FULL);
        CHECKS.due("OUTSIDE goes ahead of FULL", x.say(32), Checks.OUTSIDE);
        CHECKS.due("OUTSIDE goes ahead of FULL", x.say(127), Checks.OUTSIDE);
        CHECKS.due("the pad is as it was", x.fault(0), 60);
        CHECKS.due("suits() of it", x.suits(), Checks.NO);
        CHECKS.due("wipe() of it", x.wipe(), 60);
        Checks.say(x, "100+100=100p;200+200=200d;300+300=300p;400+400=400d;99+9=99p");
        CHECKS.due("sixty signs", x.told(0), 60);
        CHECKS.due("and no fault", x.fault(0), Checks.NONE);
        CHECKS.due("a sign too many", x.say('p'), Checks.FULL);
        CHECKS.due("suits() of sixty signs", x.suits(), 5);
        CHECKS.due("the last of them", x.suit(4, 2), 99);
        CHECKS.due("say() on the emptied pad", x.say('1'), 1);
    }

    private static void wipeTakesSignsAlone() {
        CandleCourt x = Checks.court(FIVE);
        x.seen(5, 1);
        Checks.lay(x, "43210");
        String before = Checks.state(x);
        CHECKS.due("wipe() of no signs", x.wipe(), 0);
        Checks.say(x, "abc");
        CHECKS.due("wipe()", x.wipe(), 3);
        CHECKS.due("wipe() again", x.wipe(), 0);
        CHECKS.same("after wipe()", Checks.state(x), before);
    }

    /** Every sign behind a text without a fault so far: those told may stand there, all others are the fault. */
    private static void behind(String text, String may) {
        for (int sign = FIRST_CODE; sign <= LAST_CODE; sign++) {
            CandleCourt x = new CandleCourt();
            Checks.say(x, text);
            x.say(sign);
            int fault = x.fault(0);
            String call = "the fault of " + text + (char) sign;
            if (may.indexOf(sign) < 0) {
                CHECKS.due(call, fault, text.length());
                CHECKS.due("suits() of it", x.suits(), Checks.NO);
                x.say('1');
                CHECKS.due(call + " and one more", x.fault(0), text.length());
            } else {
                boolean ends = sign == 'p' || sign == 'd';
                CHECKS.due(call, fault, ends ? Checks.NONE : text.length() + 1);
            }
        }
    }

    // "the place (from 0 on) of the first sign that can not stand there (the ; ahead of a seventh SUIT, too)"
    private static void everySignBehindEveryText() {
        String speech = DIGITS.substring(1);
        behind("", speech);
        for (String ahead : new String[] {"", "9+9=0d;", FIVE + ";"}) {
            behind(ahead, speech);
            behind(ahead + "1", DIGITS + "+");
            behind(ahead + "10", DIGITS + "+");
            behind(ahead + "999", "+");
            behind(ahead + "7+", speech);
            behind(ahead + "7+9", DIGITS + "=");
            behind(ahead + "7+90", DIGITS + "=");
            behind(ahead + "7+100", "=");
            behind(ahead + "7+9=", DIGITS);
            behind(ahead + "7+9=0", "pd");
            behind(ahead + "7+9=1", DIGITS + "pd");
            behind(ahead + "7+9=10", DIGITS + "pd");
            behind(ahead + "7+9=100", "pd");
        }
        behind("7+9=0p", ";");
        behind("7+9=0d", ";");
        behind(FIVE, ";");
        behind(SIX, "");
    }

    private static void number(String ahead, String behind, String number, int part, int want) {
        CandleCourt x = new CandleCourt();
        Checks.say(x, ahead + number + behind);
        boolean stands = want >= 0;
        CHECKS.due("suits() with " + number, x.suits(), stands ? 1 : Checks.NO);
        CHECKS.due("the number " + number, x.suit(0, part), stands ? want : Checks.UNKNOWN);
    }

    // "a number (1 to 999 ..", "0 to 999", "no 0 ahead of others, three digits at most; speeches are not 0"
    private static void numbersAtTheirEdges() {
        String[] ahead = {"", "5+", "5+5="};
        String[] behind = {"+5=5p", "=5p", "p"};
        for (int part = 0; part < 3; part++) {
            for (int v = 0; v <= 1100; v++) {
                boolean stands = v <= 999 && (v > 0 || part == 2);
                number(ahead[part], behind[part], Integer.toString(v), part, stands ? v : -1);
            }
            for (String wrong : new String[] {"", "00", "01", "001", "010", "0999", "-1", "+1"}) {
                number(ahead[part], behind[part], wrong, part, -1);
            }
        }
    }

    // "or the number of signs, if more must come (no signs are no SUITS, as at first)"
    private static void moreMustCome() {
        for (int signs = 0; signs <= SIX.length(); signs++) {
            CandleCourt x = new CandleCourt();
            Checks.say(x, SIX.substring(0, signs));
            boolean whole = signs == 0 || signs % 7 == 6;
            CHECKS.due("fault(0) of " + signs + " signs", x.fault(0), whole ? Checks.NONE : signs);
            CHECKS.due("suits() of them", x.suits(), whole ? (signs + 1) / 7 : Checks.NO);
            CHECKS.due("signs then", x.told(0), whole ? 0 : signs);
        }
    }

    // "1: digits of all SUITS, each once"
    private static void everySignOfAnOrder() {
        String six = "524103";
        for (int many = 0; many <= 6; many++) {
            String laid = "";
            for (int i = 0; i < 6; i++) {
                laid += six.charAt(i) - '0' < many ? six.substring(i, i + 1) : "";
            }
            for (int signs = 0; signs <= many; signs++) {
                everySignBehindOrder(many, laid.substring(0, signs));
            }
        }
    }

    private static void everySignBehindOrder(int many, String text) {
        for (int sign = FIRST_CODE; sign <= LAST_CODE; sign++) {
            CandleCourt x = Checks.court(SIX.substring(0, Math.max(0, 7 * many - 1)));
            Checks.say(x, text);
            x.say(sign);
            boolean stands = sign >= '0' && sign < '0' + many && text.indexOf(sign) < 0;
            int signs = text.length() + 1;
            int want = !stands ? signs - 1 : signs == many ? Checks.NONE : signs;
            CHECKS.due("fault(1) by " + many + " suits of " + text + (char) sign, x.fault(1), want);
            CHECKS.due("lay() of it", x.lay(), want == Checks.NONE ? 1 : Checks.NO);
            CHECKS.due("signs then", x.told(0), want == Checks.NONE ? 0 : signs);
        }
    }

    private static void ordersOfSoManySuits() {
        for (int many = 0; many <= 6; many++) {
            CandleCourt x = Checks.court(SIX.substring(0, Math.max(0, 7 * many - 1)));
            CHECKS.due("fault(1) of no signs by " + many + " suits", x.fault(1), many == 0 ? Checks.NONE : 0);
            CHECKS.due("lay() of it", x.lay(), many == 0 ? 1 : Checks.NO);
            CHECKS.due("fault(0) of no signs", x.fault(0), Checks.NONE);
            for (int how : new int[] {-1, 2, Checks.MIN, Checks.MAX}) {
                CHECKS.due("fault(" + how + ")", x.fault(how), Checks.OUTSIDE);
            }
        }
    }

    // "0 to 5, as many as are told"
    private static void suitsFromNoneToSix() {
        CandleCourt x = new CandleCourt();
        for (int many : new int[] {6, 0, 1, 5, 2, 4, 3, 0}) {
            Checks.say(x, SIX.substring(0, Math.max(0, 7 * many - 1)));
            CHECKS.due("suits() of " + many, x.suits(), many);
            CHECKS.due("told(5)", x.told(5), many);
            for (int suit = 0; suit <= 6; suit++) {
                CHECKS.due("suit(" + suit + ", 2)", x.suit(suit, 2), suit < many ? suit + 1 : Checks.UNKNOWN);
                CHECKS.due("told(1" + suit + ")", x.told(10 + suit), suit < many ? suit : Checks.OUTSIDE);
            }
        }
    }

    // "it is empty then; the order is by numbers, SIGHTS go"; the stub and the images are not named
    private static void suitsTakeSightsAndOrder() {
        CandleCourt x = Checks.court(SIX);
        Checks.stub(x, 99, 9, 999, 1);
        for (int i = 0; i < 6; i++) {
            x.seen(1, i);
        }
        Checks.lay(x, "543210");
        x.image(0);
        Checks.say(x, SIX);
        CHECKS.due("suits() of the same text", x.suits(), 6);
        CHECKS.same("after suits()", Checks.state(x), Checks.state(laidAnew(SIX)));
        CHECKS.due("forget() then", x.forget(), 0);
        CHECKS.due("restore(0) then", x.restore(0), 1);
        CHECKS.due("the order kept", x.told(10), 5);
        CHECKS.due("the sights kept", x.told(6), 6);
        CHECKS.due("suits() of no signs", x.suits(), 0);
        CHECKS.same("after suits() of no signs", Checks.state(x), Checks.state(laidAnew("")));
    }

    private static CandleCourt laidAnew(String text) {
        CandleCourt x = Checks.court(text);
        Checks.stub(x, 99, 9, 999, 1);
        return x;
    }

    private static void suitsRefused() {
        for (String text : new String[] {SIX.substring(0, 40), SIX + ";", SIX + ";7+7=7p", "9+9=9", "9+9=9P", "01234"}) {
            CandleCourt x = laidBackward(FIVE, "43210");
            Checks.say(x, text);
            String before = Checks.state(x);
            CHECKS.due("suits() of " + text, x.suits(), Checks.NO);
            CHECKS.same("after it", Checks.state(x), before);
        }
    }

    private static CandleCourt laidBackward(String text, String order) {
        CandleCourt x = Checks.court(text);
        x.seen(5, 1);
        x.seen(6, 0);
        Checks.lay(x, order);
        return x;
    }

    // Promise 7 does not say that sights go; it says that the pad is empty then.
    private static void layTakesNoSights() {
        CandleCourt x = Checks.court("50+50=10p;60+40=20d;20+20=5d;90+90=90p");
        Checks.stub(x, 50, 4, 7, 1);
        x.seen(10, 0);
        x.seen(11, 0);
        CHECKS.due("fits() by 0123", x.fits(), 1 << 8 | 1 << 9);
        x.image(1);
        Checks.say(x, "3210");
        CHECKS.due("lay()", x.lay(), 1);
        CHECKS.due("the pad is empty", x.told(0), 0);
        CHECKS.due("the sights stay", x.told(6), 2);
        CHECKS.due("fits() by 3210", x.fits(), 1 << 4 | 1 << 5 | 1 << 6 | 1 << 7 | 1 << 8 | 1 << 9);
        for (int i = 0; i < 4; i++) {
            CHECKS.due("the order", x.told(10 + i), 3 - i);
        }
        CHECKS.due("the stub stays", 1000000 * x.told(1) + 100000 * x.told(2) + 10 * x.told(3) + x.told(4), 50400071);
        CHECKS.due("the suits stay", x.suit(3, 2), 90);
        CHECKS.due("a third sight", x.seen(1, 0), 3);
        CHECKS.due("forget()", x.forget(), 3);
        x.restore(1);
        CHECKS.due("the image keeps its order", x.told(10), 0);
        Checks.say(x, "0123");
        CHECKS.due("lay() of the order as it is", x.lay(), 1);
        CHECKS.due("it stays", x.told(13), 3);
    }

    private static void layRefused() {
        for (String text : new String[] {"", "0", "01234", "012344", "012346", "0123450", "01234~", "1+1=1p"}) {
            CandleCourt x = laidBackward(SIX, "543210");
            Checks.say(x, text);
            String before = Checks.state(x);
            CHECKS.due("lay() of " + text, x.lay(), Checks.NO);
            CHECKS.same("after it", Checks.state(x), before);
        }
    }

    // "0 the plaintiff's speech, 1 the defendant's, 2 its worth, 3 who wins (0 p, 1 d)"
    private static void suitsAtTheirEdges() {
        CandleCourt x = Checks.court("1+999=0p;999+1=999d");
        int[][] want = {{1, 999, 0, 0}, {999, 1, 999, 1}};
        for (String order : new String[] {"01", "10"}) {
            Checks.lay(x, order);
            for (int suit = 0; suit < 2; suit++) {
                for (int what = 0; what < 4; what++) {
                    CHECKS.due("suit(" + suit + ", " + what + ")", x.suit(suit, what), want[suit][what]);
                }
            }
        }
        for (int wrong : new int[] {-1, 4, Checks.MIN, Checks.MAX}) {
            CHECKS.due("suit(1, " + wrong + ")", x.suit(1, wrong), Checks.OUTSIDE);
        }
        for (int suit : new int[] {-1, 2, 6, Checks.MIN, Checks.MAX}) {
            CHECKS.due("suit(" + suit + ", 3)", x.suit(suit, 3), Checks.UNKNOWN);
            CHECKS.due("UNKNOWN goes ahead of OUTSIDE", x.suit(suit, 4), Checks.UNKNOWN);
        }
    }
}
