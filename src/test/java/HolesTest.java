/** Promises 20 to 26: sights, a year, images, what is told. */
public final class HolesTest {
    private static final Checks CHECKS = new Checks();
    private static final String FOUR = "50+50=10p;60+40=20d;20+20=5d;90+90=90p";

    public static void main(String[] args) {
        sights();
        fits();
        year();
        yearRefused();
        images();
        imagesStandAlone();
        told();
        CHECKS.end("HolesTest");
    }

    private static void sights() {
        CandleCourt x = Checks.court(FOUR);
        int[][] wrong = {{0, 0}, {100, 0}, {1, -1}, {1, 5}};
        for (int[] w : wrong) {
            CHECKS.due("seen refused", x.seen(w[0], w[1]), CandleCourt.OUTSIDE);
        }
        for (int i = 1; i <= 6; i++) {
            CHECKS.due("seen", x.seen(i == 1 ? 99 : 1, i % 5), i);
        }
        CHECKS.due("a seventh sight", x.seen(1, 0), CandleCourt.FULL);
        CHECKS.due("a wrong seventh sight", x.seen(0, 0), CandleCourt.OUTSIDE);
        CHECKS.due("told(6)", x.told(6), 6);
        CHECKS.due("forget()", x.forget(), 6);
        CHECKS.due("forget() again", x.forget(), 0);
        CHECKS.due("told(6) after it", x.told(6), 0);
        CHECKS.due("seen after it", x.seen(1, 4), 1);
    }

    private static void fits() {
        CandleCourt x = Checks.court(FOUR);
        CHECKS.due("fits() without sights", x.fits(), 1022);
        x.seen(10, 2);
        CHECKS.due("fits() of 200 to 239 seconds", x.fits(), 1 << 3);
        x.forget();
        x.seen(10, 0);
        CHECKS.due("fits() of up to 99 seconds", x.fits(), 1 << 7 | 1 << 8 | 1 << 9);
        x.set(2, 20);
        CHECKS.due("the finger as it is", x.fits(), 1 << 8 | 1 << 9);
        Checks.lay(x, "2013");
        CHECKS.due("the order as it is", x.fits(), 0);
        x.set(2, 0);
        x.forget();
        x.seen(10, 1);
        CHECKS.due("fits() of 40 to 139 seconds", x.fits(), 1 << 5 | 1 << 6 | 1 << 7 | 1 << 8 | 1 << 9);
        x.seen(5, 0);
        CHECKS.due("fits() of two sights", x.fits(), 1 << 8 | 1 << 9);
        x.set(1, 4);
        x.set(0, 50);
        CHECKS.due("the stub and the hole are no matter", x.fits(), 1 << 8 | 1 << 9);
        x.seen(99, 1);
        CHECKS.due("sights that no hole has", x.fits(), 0);
    }

    /** By seed 0 x is 74, 5624, 28652 ..: the stubs weigh 75, 81, 42 .. */
    private static void year() {
        CandleCourt x = Checks.court(FOUR);
        x.set(1, 9);
        // They float 500, 540 and 280 seconds.
        CHECKS.due("year(0, 1, -1)", x.year(0, 1, -1), 4);
        CHECKS.due("year(0, 3, -1)", x.year(0, 3, -1), 11);
        CHECKS.due("year(0, 1, 0)", x.year(0, 1, 0), 100);
        CHECKS.due("year(0, 3, 0)", x.year(0, 3, 0), 300);
        CHECKS.due("year(0, 3, 1)", x.year(0, 3, 1), 75);
        CHECKS.due("year(0, 3, 2)", x.year(0, 3, 2), 0);
        CHECKS.due("year(0, 3, 3)", x.year(0, 3, 3), 285);
        x.set(3, 1);
        CHECKS.due("year(0, 3, 2) by the poor's law", x.year(0, 3, 2), 90);
        x.set(2, 140);
        CHECKS.due("year(0, 3, -1) with the finger", x.year(0, 3, -1), 12);
        x.set(0, 1);
        CHECKS.due("the stub is no matter", x.year(0, 3, -1), 12);
        CHECKS.due("and stays", x.told(1), 1);
    }

    private static void yearRefused() {
        CandleCourt x = new CandleCourt();
        int[][] wrong = {{-1, 1, 0}, {10000, 1, 0}, {0, 0, 0}, {0, 100, 0}, {0, 1, -2}, {0, 1, 4}};
        for (int[] w : wrong) {
            CHECKS.due("year refused", x.year(w[0], w[1], w[2]), CandleCourt.OUTSIDE);
        }
        CHECKS.due("year(9999, 99, 3)", x.year(9999, 99, 3), 0);
    }

    private static void images() {
        CandleCourt x = Checks.court(FOUR);
        int[] kept = {0, 42, 7, 333, 1, 4, 2};
        for (int which = 0; which < 4; which++) {
            x.set(which, kept[1 + which]);
        }
        Checks.lay(x, "3120");
        x.seen(10, 2);
        x.seen(98, 4);
        int fits = x.fits();
        CHECKS.due("image(-1)", x.image(-1), CandleCourt.OUTSIDE);
        CHECKS.due("image(2)", x.image(2), CandleCourt.OUTSIDE);
        CHECKS.due("restore(0) ahead of it", x.restore(0), CandleCourt.STATE);
        CHECKS.due("image(1)", x.image(1), 1);
        CHECKS.due("restore(0) of another", x.restore(0), CandleCourt.STATE);
        CHECKS.due("restore(-1)", x.restore(-1), CandleCourt.OUTSIDE);
        CHECKS.due("restore(2)", x.restore(2), CandleCourt.OUTSIDE);
        int[] later = {1, 1, 0, 0};
        for (int which = 0; which < 4; which++) {
            x.set(which, later[which]);
        }
        Checks.say(x, "7+7=7d;8+8=8p");
        x.suits();
        x.seen(3, 1);
        x.seen(4, 0);
        x.seen(5, 2);
        Checks.say(x, "!!!");
        CHECKS.due("restore(1)", x.restore(1), 1);
        CHECKS.due("the pad stays", x.wipe(), 3);
        for (int what = 0; what < kept.length; what++) {
            CHECKS.due("restored told(" + what + ")", x.told(what), kept[what]);
        }
        int[] order = {3, 1, 2, 0};
        int[][] suits = {{50, 50, 10, 0}, {60, 40, 20, 1}, {20, 20, 5, 1}, {90, 90, 90, 0}};
        for (int i = 0; i < 4; i++) {
            CHECKS.due("restored order", x.told(10 + i), order[i]);
            for (int what = 0; what < 4; what++) {
                CHECKS.due("restored suit", x.suit(i, what), suits[i][what]);
            }
        }
        CHECKS.due("restored sights", x.fits(), fits);
    }

    private static void imagesStandAlone() {
        CandleCourt x = new CandleCourt();
        x.image(0);
        Checks.say(x, FOUR);
        x.suits();
        x.set(0, 7);
        x.image(1);
        CHECKS.due("restore(0)", x.restore(0), 1);
        CHECKS.due("suits then", x.told(5), 0);
        x.set(0, 99);
        CHECKS.due("restore(0) again", x.restore(0), 1);
        CHECKS.due("weight then", x.told(1), 10);
        CHECKS.due("the other image is kept", x.restore(1), 1);
        CHECKS.due("suits of it", x.told(5), 4);
        CHECKS.due("weight of it", x.told(1), 7);
        Checks.lay(x, "3210");
        x.seen(1, 1);
        x.restore(1);
        CHECKS.due("changes do not reach the image's order", x.told(10), 0);
        CHECKS.due("nor its sights", x.told(6), 0);
        x.set(0, 8);
        x.image(1);
        x.set(0, 9);
        x.restore(1);
        CHECKS.due("a later image takes its place", x.told(1), 8);
    }

    private static void told() {
        CandleCourt x = Checks.court(FOUR);
        Checks.say(x, "abc");
        CHECKS.due("told(0)", x.told(0), 3);
        CHECKS.due("told(5)", x.told(5), 4);
        int[] wrong = {-1, 7, 8, 9, 14, 15, 16, 100};
        for (int what : wrong) {
            CHECKS.due("told(" + what + ")", x.told(what), CandleCourt.OUTSIDE);
        }
        for (int i = 0; i < 4; i++) {
            CHECKS.due("told(1" + i + ")", x.told(10 + i), i);
        }
    }
}
