/** Promises 24 to 26, sentence by sentence: all but the pad is kept, and it is as it was when it was kept. */
public final class ImagesEdgesTest {
    private static final Checks CHECKS = new Checks();
    private static final String FOUR = "50+50=10p;60+40=20d;20+20=5d;90+90=90p";
    private static final String OTHER = "1+2=3d;4+5=6d;7+8=9p;10+11=12p;13+14=15d;16+17=18p";

    public static void main(String[] args) {
        allIsKept();
        eachSettingIsKept();
        eachSightIsKept();
        fewerAndMoreSuits();
        thePadIsNotKept();
        thePadStays();
        restoredAgain();
        twoImages();
        laterImageTakesItsPlace();
        ofANewObject();
        stateOfEach();
        imagesRefused();
        toldOfEach();
        toldOfSuitsThatThereAreNot();
        CHECKS.end("ImagesEdgesTest");
    }

    /** Nothing in it is as at first. */
    private static CandleCourt rich() {
        CandleCourt x = Checks.court(FOUR);
        Checks.stub(x, 42, 7, 3, 1);
        Checks.lay(x, "2031");
        x.seen(10, 1);
        x.seen(11, 1);
        return x;
    }

    private static void changeAll(CandleCourt x) {
        Checks.stub(x, 99, 9, 999, 0);
        x.wipe();
        Checks.say(x, OTHER);
        x.suits();
        Checks.lay(x, "543210");
        x.seen(1, 6);
        x.seen(2, 0);
        x.seen(3, 5);
    }

    // "All but the PAD is kept in an IMAGE", "It is as it was when it was kept"
    private static void allIsKept() {
        for (int n = 0; n < 2; n++) {
            CandleCourt x = rich();
            String kept = Checks.state(x);
            CHECKS.due("image(" + n + ")", x.image(n), 1);
            CHECKS.same("image() changes nothing", Checks.state(x), kept);
            changeAll(x);
            CHECKS.due("restore(" + n + ")", x.restore(n), 1);
            CHECKS.same("after restore()", Checks.state(x), kept);
        }
    }

    private static void eachSettingIsKept() {
        int[] other = {7, 4, 500, 1};
        for (int which = 0; which < 4; which++) {
            CandleCourt x = new CandleCourt();
            int first = x.told(1 + which);
            x.image(0);
            x.set(which, other[which]);
            x.image(1);
            x.restore(0);
            CHECKS.due("setting " + which + " by image 0", x.told(1 + which), first);
            x.restore(1);
            CHECKS.due("setting " + which + " by image 1", x.told(1 + which), other[which]);
        }
    }

    /** Five sights hold by all holes, one by just one: its weight and its number have to be kept. */
    private static void eachSightIsKept() {
        for (int one = 0; one < 6; one++) {
            CandleCourt x = Checks.court("350+350=1p;50+50=1p;50+50=1p;100+100=1p");
            for (int i = 0; i < 6; i++) {
                x.seen(i == one ? 99 : 1, i == one ? 2 : 0);
            }
            CHECKS.due("fits() when it is kept", x.fits(), 1 << 7);
            x.image(0);
            x.forget();
            for (int i = 0; i < 6; i++) {
                x.seen(50, 4);
            }
            CHECKS.due("fits() of others", x.fits(), 1 << 1 | 1 << 2);
            x.restore(0);
            CHECKS.due("sights restored", x.told(6), 6);
            CHECKS.due("fits() restored, the " + one + "th alone", x.fits(), 1 << 7);
            x.forget();
            x.restore(0);
            CHECKS.due("forget() does not reach the image", x.fits(), 1 << 7);
        }
    }

    private static void fewerAndMoreSuits() {
        CandleCourt x = new CandleCourt();
        String none = Checks.state(x);
        x.image(0);
        Checks.say(x, OTHER);
        x.suits();
        Checks.lay(x, "352014");
        x.image(1);
        String six = Checks.state(x);
        x.restore(0);
        CHECKS.same("without suits again", Checks.state(x), none);
        CHECKS.due("suit(0, 0)", x.suit(0, 0), Checks.UNKNOWN);
        x.restore(1);
        CHECKS.same("six suits again", Checks.state(x), six);
        for (int suit = 0; suit < 6; suit++) {
            CHECKS.due("suit(" + suit + ", 0)", x.suit(suit, 0), 3 * suit + 1);
            CHECKS.due("suit(" + suit + ", 1)", x.suit(suit, 1), 3 * suit + 2);
            CHECKS.due("suit(" + suit + ", 2)", x.suit(suit, 2), 3 * suit + 3);
            CHECKS.due("suit(" + suit + ", 3)", x.suit(suit, 3), suit == 2 || suit == 3 || suit == 5 ? 0 : 1);
        }
    }

    private static void thePadIsNotKept() {
        CandleCourt x = rich();
        Checks.say(x, "12+3");
        x.image(0);
        CHECKS.due("image() leaves the pad", x.told(0), 4);
        x.wipe();
        x.restore(0);
        CHECKS.due("restore() brings no signs", x.told(0), 0);
        CHECKS.due("nor a fault of them", x.fault(0), Checks.NONE);
    }

    private static void thePadStays() {
        CandleCourt x = rich();
        x.image(0);
        changeAll(x);
        Checks.say(x, "12+3");
        x.restore(0);
        CHECKS.due("restore() takes no signs", x.told(0), 4);
        CHECKS.due("the suits are those kept", x.told(5), 4);
        Checks.say(x, "45=6d");
        CHECKS.due("suits() of the signs ahead and behind", x.suits(), 1);
        CHECKS.due("the second speech", x.suit(0, 1), 345);
        Checks.say(x, "3210");
        x.restore(0);
        CHECKS.due("an order said ahead", x.lay(), 1);
        CHECKS.due("is laid by the suits restored", x.told(10), 3);
    }

    private static void restoredAgain() {
        CandleCourt x = rich();
        String kept = Checks.state(x);
        x.image(1);
        x.restore(1);
        CHECKS.same("restored at once", Checks.state(x), kept);
        x.set(0, 1);
        x.seen(1, 1);
        Checks.lay(x, "0123");
        x.restore(1);
        CHECKS.same("restored again", Checks.state(x), kept);
        Checks.say(x, OTHER);
        x.suits();
        x.restore(1);
        CHECKS.same("and again", Checks.state(x), kept);
    }

    private static void twoImages() {
        CandleCourt x = rich();
        x.image(0);
        String first = Checks.state(x);
        changeAll(x);
        x.image(1);
        String second = Checks.state(x);
        x.restore(0);
        CHECKS.same("image 0", Checks.state(x), first);
        x.restore(1);
        CHECKS.same("image 1, kept later than image 0", Checks.state(x), second);
    }

    private static void laterImageTakesItsPlace() {
        CandleCourt x = rich();
        x.image(0);
        changeAll(x);
        String later = Checks.state(x);
        CHECKS.due("image(0) again", x.image(0), 1);
        Checks.stub(x, 1, 1, 0, 1);
        x.suits();
        x.restore(0);
        CHECKS.same("the later one", Checks.state(x), later);
        CHECKS.due("image 1 was not kept", x.restore(1), Checks.STATE);
    }

    private static void ofANewObject() {
        CandleCourt x = new CandleCourt();
        x.image(0);
        changeAll(x);
        x.restore(0);
        CHECKS.same("as a new object", Checks.state(x), Checks.state(new CandleCourt()));
    }

    // "STATE: it was not", each image for itself
    private static void stateOfEach() {
        for (int n = 0; n < 2; n++) {
            CandleCourt x = rich();
            x.image(n);
            changeAll(x);
            String before = Checks.state(x);
            CHECKS.due("restore(" + (1 - n) + ")", x.restore(1 - n), Checks.STATE);
            CHECKS.same("after it", Checks.state(x), before);
            CHECKS.due("restore(" + n + ")", x.restore(n), 1);
            CHECKS.due("it does not keep the other one", x.restore(1 - n), Checks.STATE);
        }
        CandleCourt other = new CandleCourt();
        CHECKS.due("images are an object's own", other.restore(0), Checks.STATE);
        CHECKS.due("images are an object's own", other.restore(1), Checks.STATE);
    }

    private static void imagesRefused() {
        for (int n : new int[] {Checks.MIN, -1, 2, 3, Checks.MAX}) {
            CandleCourt x = rich();
            x.image(0);
            x.image(1);
            changeAll(x);
            String before = Checks.state(x);
            CHECKS.due("image(" + n + ")", x.image(n), Checks.OUTSIDE);
            CHECKS.due("restore(" + n + ")", x.restore(n), Checks.OUTSIDE);
            CHECKS.same("after them", Checks.state(x), before);
            x.restore(0);
            CHECKS.due("image 0 is as it was", x.told(1), 42);
            CHECKS.due("OUTSIDE goes ahead of STATE", new CandleCourt().restore(n), Checks.OUTSIDE);
        }
    }

    // "0 signs, 1 the weight, 2 THE HOLE, 3 HELD, 4 THE LAW, 5 SUITS, 6 SIGHTS, 10 on the order"
    private static void toldOfEach() {
        CandleCourt x = rich();
        Checks.say(x, "!!!!!");
        int[] want = {5, 42, 7, 3, 1, 4, 2, Checks.OUTSIDE, Checks.OUTSIDE, Checks.OUTSIDE, 2, 0, 3, 1,
            Checks.OUTSIDE, Checks.OUTSIDE, Checks.OUTSIDE};
        for (int what = 0; what < want.length; what++) {
            CHECKS.due("told(" + what + ")", x.told(what), want[what]);
        }
        for (int what : new int[] {Checks.MIN, -10, -1, 17, 100, Checks.MAX}) {
            CHECKS.due("told(" + what + ")", x.told(what), Checks.OUTSIDE);
        }
    }

    // "OUTSIDE (also of SUITS that there are not)"
    private static void toldOfSuitsThatThereAreNot() {
        for (int many = 6; many >= 0; many--) {
            CandleCourt x = Checks.court(OTHER);
            StringBuilder text = new StringBuilder();
            for (int i = 0; i < many; i++) {
                text.append(i == 0 ? "" : ";").append("1+1=1p");
            }
            Checks.say(x, text.toString());
            x.suits();
            for (int i = 0; i <= 6; i++) {
                CHECKS.due("told(1" + i + ") of " + many, x.told(10 + i), i < many ? i : Checks.OUTSIDE);
            }
        }
    }
}
