/** Counts the calls whose answer is not the one that is due. */
final class Checks {
    private int wrong = 0;
    private int asked = 0;

    void due(String call, long got, long want) {
        asked++;
        if (got != want) {
            wrong++;
            System.out.println(call + " answered " + got + ", due is " + want);
        }
    }

    void holds(String what, boolean so) {
        due(what, so ? 1 : 0, 1);
    }

    void end(String name) {
        System.out.println(name + ": " + asked + " answers, " + wrong + " not as due");
        if (wrong != 0 || asked == 0) {
            System.exit(1);
        }
    }

    /** Says every sign of a text. */
    static void say(CandleCourt court, String text) {
        for (int i = 0; i < text.length(); i++) {
            court.say(text.charAt(i));
        }
    }

    /** A new court with these suits. */
    static CandleCourt court(String text) {
        CandleCourt court = new CandleCourt();
        say(court, text);
        court.suits();
        return court;
    }

    static void lay(CandleCourt court, String order) {
        say(court, order);
        court.lay();
    }
}
